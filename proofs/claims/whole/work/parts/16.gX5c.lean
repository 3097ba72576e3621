theorem d_X5_odds_0 : decode cX5_odds 0 = .ok (.aload_n 0, 1) := by decide +kernel
theorem d_X5_odds_1 : decode cX5_odds 1 = .ok (.iload_n 1, 1) := by decide +kernel
theorem d_X5_odds_2 : decode cX5_odds 2 = .ok (.iload_n 2, 1) := by decide +kernel
theorem d_X5_odds_3 : decode cX5_odds 3 = .ok (.invokevirtual 131, 3) := by decide +kernel
theorem d_X5_odds_6 : decode cX5_odds 6 = .ok (.ifCond .eq 23, 3) := by decide +kernel
theorem d_X5_odds_9 : decode cX5_odds 9 = .ok (.iload_n 3, 1) := by decide +kernel
theorem d_X5_odds_10 : decode cX5_odds 10 = .ok (.iconst 0, 1) := by decide +kernel
theorem d_X5_odds_11 : decode cX5_odds 11 = .ok (.bipush 10, 2) := by decide +kernel
theorem d_X5_odds_13 : decode cX5_odds 13 = .ok (.invokestatic 70, 3) := by decide +kernel
theorem d_X5_odds_16 : decode cX5_odds 16 = .ok (.ifCond .eq 13, 3) := by decide +kernel
theorem d_X5_odds_19 : decode cX5_odds 19 = .ok (.iload 4, 2) := by decide +kernel
theorem d_X5_odds_21 : decode cX5_odds 21 = .ok (.iconst 0, 1) := by decide +kernel
theorem d_X5_odds_22 : decode cX5_odds 22 = .ok (.iconst 1, 1) := by decide +kernel
theorem d_X5_odds_23 : decode cX5_odds 23 = .ok (.invokestatic 70, 3) := by decide +kernel
theorem d_X5_odds_26 : decode cX5_odds 26 = .ok (.ifCond .ne 11, 3) := by decide +kernel
theorem d_X5_odds_29 : decode cX5_odds 29 = .ok (.aload_n 0, 1) := by decide +kernel
theorem d_X5_odds_30 : decode cX5_odds 30 = .ok (.ldc 60, 2) := by decide +kernel
theorem d_X5_odds_32 : decode cX5_odds 32 = .ok (.invokevirtual 66, 3) := by decide +kernel
theorem d_X5_odds_35 : decode cX5_odds 35 = .ok (.i2l, 1) := by decide +kernel
theorem d_X5_odds_36 : decode cX5_odds 36 = .ok (.lreturn, 1) := by decide +kernel
theorem d_X5_odds_37 : decode cX5_odds 37 = .ok (.aload_n 0, 1) := by decide +kernel
theorem d_X5_odds_38 : decode cX5_odds 38 = .ok (.getfield 9, 3) := by decide +kernel
theorem d_X5_odds_41 : decode cX5_odds 41 = .ok (.iconst 3, 1) := by decide +kernel
theorem d_X5_odds_42 : decode cX5_odds 42 = .ok (.iaload, 1) := by decide +kernel
theorem d_X5_odds_43 : decode cX5_odds 43 = .ok (.istore 5, 2) := by decide +kernel
theorem d_X5_odds_45 : decode cX5_odds 45 = .ok (.iconst 0, 1) := by decide +kernel
theorem d_X5_odds_46 : decode cX5_odds 46 = .ok (.istore 6, 2) := by decide +kernel
theorem d_X5_odds_48 : decode cX5_odds 48 = .ok (.iconst 1, 1) := by decide +kernel
theorem d_X5_odds_49 : decode cX5_odds 49 = .ok (.istore 7, 2) := by decide +kernel
theorem d_X5_odds_51 : decode cX5_odds 51 = .ok (.iload 7, 2) := by decide +kernel
theorem d_X5_odds_53 : decode cX5_odds 53 = .ok (.bipush 60, 2) := by decide +kernel
theorem d_X5_odds_55 : decode cX5_odds 55 = .ok (.if_icmp .gt 37, 3) := by decide +kernel
theorem d_X5_odds_58 : decode cX5_odds 58 = .ok (.aload_n 0, 1) := by decide +kernel
theorem d_X5_odds_59 : decode cX5_odds 59 = .ok (.getfield 9, 3) := by decide +kernel
theorem d_X5_odds_62 : decode cX5_odds 62 = .ok (.iconst 3, 1) := by decide +kernel
theorem d_X5_odds_63 : decode cX5_odds 63 = .ok (.iload 7, 2) := by decide +kernel
theorem d_X5_odds_65 : decode cX5_odds 65 = .ok (.iastore, 1) := by decide +kernel
theorem d_X5_odds_66 : decode cX5_odds 66 = .ok (.iload 6, 2) := by decide +kernel
theorem d_X5_odds_68 : decode cX5_odds 68 = .ok (.aload_n 0, 1) := by decide +kernel
theorem d_X5_odds_69 : decode cX5_odds 69 = .ok (.iload_n 1, 1) := by decide +kernel
theorem d_X5_odds_70 : decode cX5_odds 70 = .ok (.iload_n 2, 1) := by decide +kernel
theorem d_X5_odds_71 : decode cX5_odds 71 = .ok (.invokevirtual 137, 3) := by decide +kernel
theorem d_X5_odds_74 : decode cX5_odds 74 = .ok (.iload_n 1, 1) := by decide +kernel
theorem d_X5_odds_75 : decode cX5_odds 75 = .ok (.if_icmp .ne 7, 3) := by decide +kernel
theorem d_X5_odds_78 : decode cX5_odds 78 = .ok (.iconst 1, 1) := by decide +kernel
theorem d_X5_odds_79 : decode cX5_odds 79 = .ok (.goto 4, 3) := by decide +kernel
theorem d_X5_odds_82 : decode cX5_odds 82 = .ok (.iconst 0, 1) := by decide +kernel
theorem d_X5_odds_83 : decode cX5_odds 83 = .ok (.iadd, 1) := by decide +kernel
theorem d_X5_odds_84 : decode cX5_odds 84 = .ok (.istore 6, 2) := by decide +kernel
theorem d_X5_odds_86 : decode cX5_odds 86 = .ok (.iinc 7 1, 3) := by decide +kernel
theorem d_X5_odds_89 : decode cX5_odds 89 = .ok (.goto (-38), 3) := by decide +kernel
theorem d_X5_odds_92 : decode cX5_odds 92 = .ok (.aload_n 0, 1) := by decide +kernel
theorem d_X5_odds_93 : decode cX5_odds 93 = .ok (.getfield 9, 3) := by decide +kernel
theorem d_X5_odds_96 : decode cX5_odds 96 = .ok (.iconst 3, 1) := by decide +kernel
theorem d_X5_odds_97 : decode cX5_odds 97 = .ok (.iload 5, 2) := by decide +kernel
theorem d_X5_odds_99 : decode cX5_odds 99 = .ok (.iastore, 1) := by decide +kernel
theorem d_X5_odds_100 : decode cX5_odds 100 = .ok (.bipush 60, 2) := by decide +kernel
theorem d_X5_odds_102 : decode cX5_odds 102 = .ok (.istore 7, 2) := by decide +kernel
theorem d_X5_odds_104 : decode cX5_odds 104 = .ok (.iload 6, 2) := by decide +kernel
theorem d_X5_odds_106 : decode cX5_odds 106 = .ok (.istore 8, 2) := by decide +kernel
theorem d_X5_odds_108 : decode cX5_odds 108 = .ok (.iload 8, 2) := by decide +kernel
theorem d_X5_odds_110 : decode cX5_odds 110 = .ok (.ifCond .eq 21, 3) := by decide +kernel
theorem d_X5_odds_113 : decode cX5_odds 113 = .ok (.iload 7, 2) := by decide +kernel
theorem d_X5_odds_115 : decode cX5_odds 115 = .ok (.iload 8, 2) := by decide +kernel
theorem d_X5_odds_117 : decode cX5_odds 117 = .ok (.irem, 1) := by decide +kernel
theorem d_X5_odds_118 : decode cX5_odds 118 = .ok (.istore 9, 2) := by decide +kernel
theorem d_X5_odds_120 : decode cX5_odds 120 = .ok (.iload 8, 2) := by decide +kernel
theorem d_X5_odds_122 : decode cX5_odds 122 = .ok (.istore 7, 2) := by decide +kernel
theorem d_X5_odds_124 : decode cX5_odds 124 = .ok (.iload 9, 2) := by decide +kernel
theorem d_X5_odds_126 : decode cX5_odds 126 = .ok (.istore 8, 2) := by decide +kernel
theorem d_X5_odds_128 : decode cX5_odds 128 = .ok (.goto (-20), 3) := by decide +kernel
theorem d_X5_odds_131 : decode cX5_odds 131 = .ok (.lconst 1, 1) := by decide +kernel
theorem d_X5_odds_132 : decode cX5_odds 132 = .ok (.lstore 9, 2) := by decide +kernel
theorem d_X5_odds_134 : decode cX5_odds 134 = .ok (.iconst 0, 1) := by decide +kernel
theorem d_X5_odds_135 : decode cX5_odds 135 = .ok (.istore 11, 2) := by decide +kernel
theorem d_X5_odds_137 : decode cX5_odds 137 = .ok (.iload 11, 2) := by decide +kernel
theorem d_X5_odds_139 : decode cX5_odds 139 = .ok (.iload_n 3, 1) := by decide +kernel
theorem d_X5_odds_140 : decode cX5_odds 140 = .ok (.if_icmp .ge 30, 3) := by decide +kernel
theorem d_X5_odds_143 : decode cX5_odds 143 = .ok (.lload 9, 2) := by decide +kernel
theorem d_X5_odds_145 : decode cX5_odds 145 = .ok (.iload 4, 2) := by decide +kernel
theorem d_X5_odds_147 : decode cX5_odds 147 = .ok (.ifCond .ne 8, 3) := by decide +kernel
theorem d_X5_odds_150 : decode cX5_odds 150 = .ok (.iload 6, 2) := by decide +kernel
theorem d_X5_odds_152 : decode cX5_odds 152 = .ok (.goto 5, 3) := by decide +kernel
theorem d_X5_odds_155 : decode cX5_odds 155 = .ok (.bipush 60, 2) := by decide +kernel
theorem d_X5_odds_157 : decode cX5_odds 157 = .ok (.iload 7, 2) := by decide +kernel
theorem d_X5_odds_159 : decode cX5_odds 159 = .ok (.idiv, 1) := by decide +kernel
theorem d_X5_odds_160 : decode cX5_odds 160 = .ok (.i2l, 1) := by decide +kernel
theorem d_X5_odds_161 : decode cX5_odds 161 = .ok (.lmul, 1) := by decide +kernel
theorem d_X5_odds_162 : decode cX5_odds 162 = .ok (.lstore 9, 2) := by decide +kernel
theorem d_X5_odds_164 : decode cX5_odds 164 = .ok (.iinc 11 1, 3) := by decide +kernel
theorem d_X5_odds_167 : decode cX5_odds 167 = .ok (.goto (-30), 3) := by decide +kernel
theorem d_X5_odds_170 : decode cX5_odds 170 = .ok (.lload 9, 2) := by decide +kernel
theorem d_X5_odds_172 : decode cX5_odds 172 = .ok (.lreturn, 1) := by decide +kernel
noncomputable def P_X5_odds : Nat → Op := fun pc => nd 82 pc (nd 42 pc (nd 21 pc (nd 9 pc (nd 2 pc (nd 1 pc (lf 0 pc (oALd 0 1)) (lf 1 pc (oILd 1 2))) (nd 3 pc (lf 2 pc (oILd 2 3)) (nd 6 pc (lf 3 pc (oCaV 3 5 S_X5_areTwo 6)) (lf 6 pc (oIfEq 29 9))))) (nd 13 pc (nd 10 pc (lf 9 pc (oILd 3 10)) (nd 11 pc (lf 10 pc (oCst 0 11)) (lf 11 pc (oCst 10 13)))) (nd 16 pc (lf 13 pc (oCaS 3 S_X5_within 16)) (nd 19 pc (lf 16 pc (oIfEq 29 19)) (lf 19 pc (oILd 4 21)))))) (nd 32 pc (nd 26 pc (nd 22 pc (lf 21 pc (oCst 0 22)) (nd 23 pc (lf 22 pc (oCst 1 23)) (lf 23 pc (oCaS 3 S_X5_within 26)))) (nd 29 pc (lf 26 pc (oIfEq 29 37)) (nd 30 pc (lf 29 pc (oALd 0 30)) (lf 30 pc (oCst (-1000001) 32))))) (nd 37 pc (nd 35 pc (lf 32 pc (oCaV 2 5 S_X5_finding 35)) (nd 36 pc (lf 35 pc (oI2L 36)) (lf 36 pc (oLRet)))) (nd 38 pc (lf 37 pc (oALd 0 38)) (nd 41 pc (lf 38 pc (oGetR 5 0 41)) (lf 41 pc (oCst 3 42))))))) (nd 62 pc (nd 49 pc (nd 45 pc (nd 43 pc (lf 42 pc (oIAL 43)) (lf 43 pc (oISt 5 45))) (nd 46 pc (lf 45 pc (oCst 0 46)) (nd 48 pc (lf 46 pc (oISt 6 48)) (lf 48 pc (oCst 1 49))))) (nd 55 pc (nd 51 pc (lf 49 pc (oISt 7 51)) (nd 53 pc (lf 51 pc (lockO (oILd 7 53) 0)) (lf 53 pc (oCst 60 55)))) (nd 58 pc (lf 55 pc (oCpGt 92 58)) (nd 59 pc (lf 58 pc (oALd 0 59)) (lf 59 pc (oGetR 5 0 62)))))) (nd 70 pc (nd 66 pc (nd 63 pc (lf 62 pc (oCst 3 63)) (nd 65 pc (lf 63 pc (oILd 7 65)) (lf 65 pc (oIAS 66)))) (nd 68 pc (lf 66 pc (oILd 6 68)) (nd 69 pc (lf 68 pc (oALd 0 69)) (lf 69 pc (oILd 1 70))))) (nd 75 pc (nd 71 pc (lf 70 pc (oILd 2 71)) (nd 74 pc (lf 71 pc (oCaV 3 5 S_X5_fallsFor 74)) (lf 74 pc (oILd 1 75)))) (nd 78 pc (lf 75 pc (oCpEq 78 82)) (nd 79 pc (lf 78 pc (oCst 1 79)) (lf 79 pc (oGo 83)))))))) (nd 126 pc (nd 102 pc (nd 92 pc (nd 84 pc (nd 83 pc (lf 82 pc (oCst 0 83)) (lf 83 pc (oBin (fun x y => x + y) 84))) (nd 86 pc (lf 84 pc (oISt 6 86)) (nd 89 pc (lf 86 pc (oInc 7 1 89)) (lf 89 pc (oGo 51))))) (nd 97 pc (nd 93 pc (lf 92 pc (oALd 0 93)) (nd 96 pc (lf 93 pc (oGetR 5 0 96)) (lf 96 pc (oCst 3 97)))) (nd 99 pc (lf 97 pc (oILd 5 99)) (nd 100 pc (lf 99 pc (oIAS 100)) (lf 100 pc (oCst 60 102)))))) (nd 115 pc (nd 108 pc (nd 104 pc (lf 102 pc (oISt 7 104)) (nd 106 pc (lf 104 pc (oILd 6 106)) (lf 106 pc (oISt 8 108)))) (nd 110 pc (lf 108 pc (lockO (oILd 8 110) 0)) (nd 113 pc (lf 110 pc (oIfEq 131 113)) (lf 113 pc (oILd 7 115))))) (nd 120 pc (nd 117 pc (lf 115 pc (oILd 8 117)) (nd 118 pc (lf 117 pc (oDiv (fun x y => x % y) 118)) (lf 118 pc (oISt 9 120)))) (nd 122 pc (lf 120 pc (oILd 8 122)) (nd 124 pc (lf 122 pc (oISt 7 124)) (lf 124 pc (oILd 9 126))))))) (nd 150 pc (nd 137 pc (nd 132 pc (nd 128 pc (lf 126 pc (oISt 8 128)) (nd 131 pc (lf 128 pc (oGo 108)) (lf 131 pc (oLCst 1 132)))) (nd 134 pc (lf 132 pc (oLSt 9 134)) (nd 135 pc (lf 134 pc (oCst 0 135)) (lf 135 pc (oISt 11 137))))) (nd 143 pc (nd 139 pc (lf 137 pc (lockO (oILd 11 139) 0)) (nd 140 pc (lf 139 pc (oILd 3 140)) (lf 140 pc (oCpLt 143 170)))) (nd 145 pc (lf 143 pc (oLLd 9 145)) (nd 147 pc (lf 145 pc (oILd 4 147)) (lf 147 pc (oIfEq 150 155)))))) (nd 161 pc (nd 157 pc (nd 152 pc (lf 150 pc (oILd 6 152)) (nd 155 pc (lf 152 pc (oGo 157)) (lf 155 pc (oCst 60 157)))) (nd 159 pc (lf 157 pc (oILd 7 159)) (nd 160 pc (lf 159 pc (oDiv (fun x y => x / y) 160)) (lf 160 pc (oI2L 161))))) (nd 167 pc (nd 162 pc (lf 161 pc (oLBin (fun x y => x * y) 162)) (nd 164 pc (lf 162 pc (oLSt 9 164)) (lf 164 pc (oInc 11 1 167)))) (nd 170 pc (lf 167 pc (oGo 137)) (nd 172 pc (lf 170 pc (oLLd 9 172)) (lf 172 pc (oLRet))))))))
theorem ok_X5_odds {l : Launch} {G : Gm} : ∀ pc, OkU (TXm l G (rmD 6) 12 cX5_odds RX5) (RXm l G (rmD 6) 12 cX5_odds RX5 (some .long)) pc (P_X5_odds pc) := fun pc => ok_nd (ok_nd (ok_nd (ok_nd (ok_nd (ok_nd (ok_lf (ok_ALdn d_X5_odds_0 rfl rfl)) (ok_lf (ok_ILdn d_X5_odds_1 rfl rfl))) (ok_nd (ok_lf (ok_ILdn d_X5_odds_2 rfl rfl)) (ok_nd (ok_lf (ok_CaV su_X5_areTwo (by decide) rfl d_X5_odds_3 q868 q870 z66 q6 q871 ⟨by decide +kernel, by decide +kernel, by decide +kernel⟩ ⟨by decide, by decide⟩ rfl)) (ok_lf (ok_IfEq d_X5_odds_6 (by decide) rfl))))) (ok_nd (ok_nd (ok_lf (ok_ILdn d_X5_odds_9 rfl rfl)) (ok_nd (ok_lf (ok_ICst d_X5_odds_10 (by decide) rfl)) (ok_lf (ok_BCst d_X5_odds_11 (by decide) rfl)))) (ok_nd (ok_lf (ok_CaS su_X5_within d_X5_odds_13 q774 q775 q6 q776 ⟨by decide +kernel, by decide +kernel, by decide +kernel⟩ ⟨by decide, by decide⟩ rfl)) (ok_nd (ok_lf (ok_IfEq d_X5_odds_16 (by decide) rfl)) (ok_lf (ok_ILd d_X5_odds_19 rfl)))))) (ok_nd (ok_nd (ok_nd (ok_lf (ok_ICst d_X5_odds_21 (by decide) rfl)) (ok_nd (ok_lf (ok_ICst d_X5_odds_22 (by decide) rfl)) (ok_lf (ok_CaS su_X5_within d_X5_odds_23 q774 q775 q6 q776 ⟨by decide +kernel, by decide +kernel, by decide +kernel⟩ ⟨by decide, by decide⟩ rfl)))) (ok_nd (ok_lf (ok_IfNe d_X5_odds_26 (by decide) rfl)) (ok_nd (ok_lf (ok_ALdn d_X5_odds_29 rfl rfl)) (ok_lf (ok_Ldc d_X5_odds_30 q781 rfl))))) (ok_nd (ok_nd (ok_lf (ok_CaV su_X5_finding (by decide) rfl d_X5_odds_32 q782 q784 z56 q6 q785 ⟨by decide +kernel, by decide +kernel, by decide +kernel⟩ ⟨by decide, by decide⟩ rfl)) (ok_nd (ok_lf (ok_I2L d_X5_odds_35 rfl)) (ok_lf (ok_LRet d_X5_odds_36)))) (ok_nd (ok_lf (ok_ALdn d_X5_odds_37 rfl rfl)) (ok_nd (ok_lf (ok_GetR (by decide) (by decide) rfl d_X5_odds_38 q703 rfl)) (ok_lf (ok_ICst d_X5_odds_41 (by decide) rfl))))))) (ok_nd (ok_nd (ok_nd (ok_nd (ok_lf (ok_IAL d_X5_odds_42 rfl)) (ok_lf (ok_ISt d_X5_odds_43 rfl))) (ok_nd (ok_lf (ok_ICst d_X5_odds_45 (by decide) rfl)) (ok_nd (ok_lf (ok_ISt d_X5_odds_46 rfl)) (ok_lf (ok_ICst d_X5_odds_48 (by decide) rfl))))) (ok_nd (ok_nd (ok_lf (ok_ISt d_X5_odds_49 rfl)) (ok_nd (ok_lf (ok_lk (ok_ILd d_X5_odds_51 rfl))) (ok_lf (ok_BCst d_X5_odds_53 (by decide) rfl)))) (ok_nd (ok_lf (ok_CpGt d_X5_odds_55 (by decide) rfl)) (ok_nd (ok_lf (ok_ALdn d_X5_odds_58 rfl rfl)) (ok_lf (ok_GetR (by decide) (by decide) rfl d_X5_odds_59 q703 rfl)))))) (ok_nd (ok_nd (ok_nd (ok_lf (ok_ICst d_X5_odds_62 (by decide) rfl)) (ok_nd (ok_lf (ok_ILd d_X5_odds_63 rfl)) (ok_lf (ok_IAS d_X5_odds_65 rfl)))) (ok_nd (ok_lf (ok_ILd d_X5_odds_66 rfl)) (ok_nd (ok_lf (ok_ALdn d_X5_odds_68 rfl rfl)) (ok_lf (ok_ILdn d_X5_odds_69 rfl rfl))))) (ok_nd (ok_nd (ok_lf (ok_ILdn d_X5_odds_70 rfl rfl)) (ok_nd (ok_lf (ok_CaV su_X5_fallsFor (by decide) rfl d_X5_odds_71 q880 q882 z68 q6 q883 ⟨by decide +kernel, by decide +kernel, by decide +kernel⟩ ⟨by decide, by decide⟩ rfl)) (ok_lf (ok_ILdn d_X5_odds_74 rfl rfl)))) (ok_nd (ok_lf (ok_CpNe d_X5_odds_75 (by decide) rfl)) (ok_nd (ok_lf (ok_ICst d_X5_odds_78 (by decide) rfl)) (ok_lf (ok_Go d_X5_odds_79 (by decide))))))))) (ok_nd (ok_nd (ok_nd (ok_nd (ok_nd (ok_lf (ok_ICst d_X5_odds_82 (by decide) rfl)) (ok_lf (ok_iadd d_X5_odds_83 rfl))) (ok_nd (ok_lf (ok_ISt d_X5_odds_84 rfl)) (ok_nd (ok_lf (ok_Inc d_X5_odds_86 (by decide) rfl)) (ok_lf (ok_Go d_X5_odds_89 (by decide)))))) (ok_nd (ok_nd (ok_lf (ok_ALdn d_X5_odds_92 rfl rfl)) (ok_nd (ok_lf (ok_GetR (by decide) (by decide) rfl d_X5_odds_93 q703 rfl)) (ok_lf (ok_ICst d_X5_odds_96 (by decide) rfl)))) (ok_nd (ok_lf (ok_ILd d_X5_odds_97 rfl)) (ok_nd (ok_lf (ok_IAS d_X5_odds_99 rfl)) (ok_lf (ok_BCst d_X5_odds_100 (by decide) rfl)))))) (ok_nd (ok_nd (ok_nd (ok_lf (ok_ISt d_X5_odds_102 rfl)) (ok_nd (ok_lf (ok_ILd d_X5_odds_104 rfl)) (ok_lf (ok_ISt d_X5_odds_106 rfl)))) (ok_nd (ok_lf (ok_lk (ok_ILd d_X5_odds_108 rfl))) (ok_nd (ok_lf (ok_IfEq d_X5_odds_110 (by decide) rfl)) (ok_lf (ok_ILd d_X5_odds_113 rfl))))) (ok_nd (ok_nd (ok_lf (ok_ILd d_X5_odds_115 rfl)) (ok_nd (ok_lf (ok_irem d_X5_odds_117 rfl)) (ok_lf (ok_ISt d_X5_odds_118 rfl)))) (ok_nd (ok_lf (ok_ILd d_X5_odds_120 rfl)) (ok_nd (ok_lf (ok_ISt d_X5_odds_122 rfl)) (ok_lf (ok_ILd d_X5_odds_124 rfl))))))) (ok_nd (ok_nd (ok_nd (ok_nd (ok_lf (ok_ISt d_X5_odds_126 rfl)) (ok_nd (ok_lf (ok_Go d_X5_odds_128 (by decide))) (ok_lf (ok_LCst d_X5_odds_131 (by decide) rfl)))) (ok_nd (ok_lf (ok_LSt d_X5_odds_132 rfl)) (ok_nd (ok_lf (ok_ICst d_X5_odds_134 (by decide) rfl)) (ok_lf (ok_ISt d_X5_odds_135 rfl))))) (ok_nd (ok_nd (ok_lf (ok_lk (ok_ILd d_X5_odds_137 rfl))) (ok_nd (ok_lf (ok_ILdn d_X5_odds_139 rfl rfl)) (ok_lf (ok_CpGe d_X5_odds_140 (by decide) rfl)))) (ok_nd (ok_lf (ok_LLd d_X5_odds_143 rfl)) (ok_nd (ok_lf (ok_ILd d_X5_odds_145 rfl)) (ok_lf (ok_IfNe d_X5_odds_147 (by decide) rfl)))))) (ok_nd (ok_nd (ok_nd (ok_lf (ok_ILd d_X5_odds_150 rfl)) (ok_nd (ok_lf (ok_Go d_X5_odds_152 (by decide))) (ok_lf (ok_BCst d_X5_odds_155 (by decide) rfl)))) (ok_nd (ok_lf (ok_ILd d_X5_odds_157 rfl)) (ok_nd (ok_lf (ok_idiv d_X5_odds_159 rfl)) (ok_lf (ok_I2L d_X5_odds_160 rfl))))) (ok_nd (ok_nd (ok_lf (ok_lmul d_X5_odds_161 rfl)) (ok_nd (ok_lf (ok_LSt d_X5_odds_162 rfl)) (ok_lf (ok_Inc d_X5_odds_164 (by decide) rfl)))) (ok_nd (ok_lf (ok_Go d_X5_odds_167 (by decide))) (ok_nd (ok_lf (ok_LLd d_X5_odds_170 rfl)) (ok_lf (ok_LRet d_X5_odds_172))))))))
noncomputable def S_X5_odds : Sem := lockS (inl P_X5_odds 30000 12) 0
theorem su_X5_odds {l : Launch} {G : Gm} : SemU l G yX5_odds (wsOf yX5_odds cX5_odds 12 (some .long)) 6 S_X5_odds := sem_lock (sem_inl 30000 (by decide +kernel) rfl ok_X5_odds)
theorem d_X5_seed_0 : decode cX5_seed 0 = .ok (.aload_n 0, 1) := by decide +kernel
theorem d_X5_seed_1 : decode cX5_seed 1 = .ok (.iconst 2, 1) := by decide +kernel
theorem d_X5_seed_2 : decode cX5_seed 2 = .ok (.iload_n 1, 1) := by decide +kernel
theorem d_X5_seed_3 : decode cX5_seed 3 = .ok (.invokevirtual 74, 3) := by decide +kernel
theorem d_X5_seed_6 : decode cX5_seed 6 = .ok (.ireturn, 1) := by decide +kernel
noncomputable def P_X5_seed : Nat → Op := fun pc => nd 2 pc (nd 1 pc (lf 0 pc (oALd 0 1)) (lf 1 pc (oCst 2 2))) (nd 3 pc (lf 2 pc (oILd 1 3)) (nd 6 pc (lf 3 pc (oCaV 3 5 S_X5_become 6)) (lf 6 pc (oIRet))))
theorem ok_X5_seed {l : Launch} {G : Gm} : ∀ pc, OkU (TXm l G (rmD 2) 2 cX5_seed RX5) (RXm l G (rmD 2) 2 cX5_seed RX5 (some .int)) pc (P_X5_seed pc) := fun pc => ok_nd (ok_nd (ok_lf (ok_ALdn d_X5_seed_0 rfl rfl)) (ok_lf (ok_ICst d_X5_seed_1 (by decide) rfl))) (ok_nd (ok_lf (ok_ILdn d_X5_seed_2 rfl rfl)) (ok_nd (ok_lf (ok_CaV su_X5_become (by decide) rfl d_X5_seed_3 q777 q779 z55 q6 q780 ⟨by decide +kernel, by decide +kernel, by decide +kernel⟩ ⟨by decide, by decide⟩ rfl)) (ok_lf (ok_IRet d_X5_seed_6))))
noncomputable def S_X5_seed : Sem := lockS (inl P_X5_seed 7 2) 0
theorem su_X5_seed {l : Launch} {G : Gm} : SemU l G yX5_seed (wsOf yX5_seed cX5_seed 2 (some .int)) 2 S_X5_seed := sem_lock (sem_inl 7 (by decide +kernel) rfl ok_X5_seed)
theorem d_X5_feed_0 : decode cX5_feed 0 = .ok (.iload_n 2, 1) := by decide +kernel
theorem d_X5_feed_1 : decode cX5_feed 1 = .ok (.iconst 1, 1) := by decide +kernel
theorem d_X5_feed_2 : decode cX5_feed 2 = .ok (.iconst 4, 1) := by decide +kernel
theorem d_X5_feed_3 : decode cX5_feed 3 = .ok (.invokestatic 70, 3) := by decide +kernel
theorem d_X5_feed_6 : decode cX5_feed 6 = .ok (.ifCond .ne 10, 3) := by decide +kernel
theorem d_X5_feed_9 : decode cX5_feed 9 = .ok (.aload_n 0, 1) := by decide +kernel
theorem d_X5_feed_10 : decode cX5_feed 10 = .ok (.ldc 60, 2) := by decide +kernel
theorem d_X5_feed_12 : decode cX5_feed 12 = .ok (.invokevirtual 66, 3) := by decide +kernel
theorem d_X5_feed_15 : decode cX5_feed 15 = .ok (.ireturn, 1) := by decide +kernel
theorem d_X5_feed_16 : decode cX5_feed 16 = .ok (.aload_n 0, 1) := by decide +kernel
theorem d_X5_feed_17 : decode cX5_feed 17 = .ok (.getfield 224, 3) := by decide +kernel
theorem d_X5_feed_20 : decode cX5_feed 20 = .ok (.iload_n 2, 1) := by decide +kernel
theorem d_X5_feed_21 : decode cX5_feed 21 = .ok (.iadd, 1) := by decide +kernel
theorem d_X5_feed_22 : decode cX5_feed 22 = .ok (.bipush 120, 2) := by decide +kernel
theorem d_X5_feed_24 : decode cX5_feed 24 = .ok (.if_icmp .le 10, 3) := by decide +kernel
theorem d_X5_feed_27 : decode cX5_feed 27 = .ok (.aload_n 0, 1) := by decide +kernel
theorem d_X5_feed_28 : decode cX5_feed 28 = .ok (.ldc 91, 2) := by decide +kernel
theorem d_X5_feed_30 : decode cX5_feed 30 = .ok (.invokevirtual 66, 3) := by decide +kernel
theorem d_X5_feed_33 : decode cX5_feed 33 = .ok (.ireturn, 1) := by decide +kernel
theorem d_X5_feed_34 : decode cX5_feed 34 = .ok (.iload_n 2, 1) := by decide +kernel
theorem d_X5_feed_35 : decode cX5_feed 35 = .ok (.iconst 1, 1) := by decide +kernel
theorem d_X5_feed_36 : decode cX5_feed 36 = .ok (.isub, 1) := by decide +kernel
theorem d_X5_feed_37 : decode cX5_feed 37 = .ok (.istore_n 3, 1) := by decide +kernel
theorem d_X5_feed_38 : decode cX5_feed 38 = .ok (.iload_n 3, 1) := by decide +kernel
theorem d_X5_feed_39 : decode cX5_feed 39 = .ok (.ifCond .lt 38, 3) := by decide +kernel
theorem d_X5_feed_42 : decode cX5_feed 42 = .ok (.aload_n 0, 1) := by decide +kernel
theorem d_X5_feed_43 : decode cX5_feed 43 = .ok (.getfield 22, 3) := by decide +kernel
theorem d_X5_feed_46 : decode cX5_feed 46 = .ok (.aload_n 0, 1) := by decide +kernel
theorem d_X5_feed_47 : decode cX5_feed 47 = .ok (.getfield 224, 3) := by decide +kernel
theorem d_X5_feed_50 : decode cX5_feed 50 = .ok (.iload_n 1, 1) := by decide +kernel
theorem d_X5_feed_51 : decode cX5_feed 51 = .ok (.bipush 8, 2) := by decide +kernel
theorem d_X5_feed_53 : decode cX5_feed 53 = .ok (.iload_n 3, 1) := by decide +kernel
theorem d_X5_feed_54 : decode cX5_feed 54 = .ok (.imul, 1) := by decide +kernel
theorem d_X5_feed_55 : decode cX5_feed 55 = .ok (.ishr, 1) := by decide +kernel
theorem d_X5_feed_56 : decode cX5_feed 56 = .ok (.sipush 255, 3) := by decide +kernel
theorem d_X5_feed_59 : decode cX5_feed 59 = .ok (.iand, 1) := by decide +kernel
theorem d_X5_feed_60 : decode cX5_feed 60 = .ok (.iastore, 1) := by decide +kernel
theorem d_X5_feed_61 : decode cX5_feed 61 = .ok (.aload_n 0, 1) := by decide +kernel
theorem d_X5_feed_62 : decode cX5_feed 62 = .ok (.dup, 1) := by decide +kernel
theorem d_X5_feed_63 : decode cX5_feed 63 = .ok (.getfield 224, 3) := by decide +kernel
theorem d_X5_feed_66 : decode cX5_feed 66 = .ok (.iconst 1, 1) := by decide +kernel
theorem d_X5_feed_67 : decode cX5_feed 67 = .ok (.iadd, 1) := by decide +kernel
theorem d_X5_feed_68 : decode cX5_feed 68 = .ok (.putfield 224, 3) := by decide +kernel
theorem d_X5_feed_71 : decode cX5_feed 71 = .ok (.iinc 3 (-1), 3) := by decide +kernel
theorem d_X5_feed_74 : decode cX5_feed 74 = .ok (.goto (-36), 3) := by decide +kernel
theorem d_X5_feed_77 : decode cX5_feed 77 = .ok (.aload_n 0, 1) := by decide +kernel
theorem d_X5_feed_78 : decode cX5_feed 78 = .ok (.getfield 224, 3) := by decide +kernel
theorem d_X5_feed_81 : decode cX5_feed 81 = .ok (.ireturn, 1) := by decide +kernel
noncomputable def P_X5_feed : Nat → Op := fun pc => nd 39 pc (nd 21 pc (nd 10 pc (nd 3 pc (nd 1 pc (lf 0 pc (oILd 2 1)) (nd 2 pc (lf 1 pc (oCst 1 2)) (lf 2 pc (oCst 4 3)))) (nd 6 pc (lf 3 pc (oCaS 3 S_X5_within 6)) (nd 9 pc (lf 6 pc (oIfEq 9 16)) (lf 9 pc (oALd 0 10))))) (nd 16 pc (nd 12 pc (lf 10 pc (oCst (-1000001) 12)) (nd 15 pc (lf 12 pc (oCaV 2 5 S_X5_finding 15)) (lf 15 pc (oIRet)))) (nd 17 pc (lf 16 pc (oALd 0 17)) (nd 20 pc (lf 17 pc (oGetI 5 8 20)) (lf 20 pc (oILd 2 21)))))) (nd 33 pc (nd 27 pc (nd 22 pc (lf 21 pc (oBin (fun x y => x + y) 22)) (nd 24 pc (lf 22 pc (oCst 120 24)) (lf 24 pc (oCpGt 27 34)))) (nd 28 pc (lf 27 pc (oALd 0 28)) (nd 30 pc (lf 28 pc (oCst (-1000002) 30)) (lf 30 pc (oCaV 2 5 S_X5_finding 33))))) (nd 36 pc (nd 34 pc (lf 33 pc (oIRet)) (nd 35 pc (lf 34 pc (oILd 2 35)) (lf 35 pc (oCst 1 36)))) (nd 37 pc (lf 36 pc (oBin (fun x y => x - y) 37)) (nd 38 pc (lf 37 pc (oISt 3 38)) (lf 38 pc (lockO (oILd 3 39) 0))))))) (nd 60 pc (nd 51 pc (nd 46 pc (nd 42 pc (lf 39 pc (oIfLt 77 42)) (nd 43 pc (lf 42 pc (oALd 0 43)) (lf 43 pc (oGetR 5 7 46)))) (nd 47 pc (lf 46 pc (oALd 0 47)) (nd 50 pc (lf 47 pc (oGetI 5 8 50)) (lf 50 pc (oILd 1 51))))) (nd 55 pc (nd 53 pc (lf 51 pc (oCst 8 53)) (nd 54 pc (lf 53 pc (oILd 3 54)) (lf 54 pc (oBin (fun x y => x * y) 55)))) (nd 56 pc (lf 55 pc (oBin (fun x y => x >>> (y &&& 31)) 56)) (nd 59 pc (lf 56 pc (oCst 255 59)) (lf 59 pc (oBin (fun x y => x &&& y) 60)))))) (nd 68 pc (nd 63 pc (nd 61 pc (lf 60 pc (oIAS 61)) (nd 62 pc (lf 61 pc (oALd 0 62)) (lf 62 pc (oDup 63)))) (nd 66 pc (lf 63 pc (oGetI 5 8 66)) (nd 67 pc (lf 66 pc (oCst 1 67)) (lf 67 pc (oBin (fun x y => x + y) 68))))) (nd 77 pc (nd 71 pc (lf 68 pc (oPutI 5 8 71)) (nd 74 pc (lf 71 pc (oInc 3 (-1) 74)) (lf 74 pc (oGo 38)))) (nd 78 pc (lf 77 pc (oALd 0 78)) (nd 81 pc (lf 78 pc (oGetI 5 8 81)) (lf 81 pc (oIRet)))))))
theorem ok_X5_feed {l : Launch} {G : Gm} : ∀ pc, OkU (TXm l G (rmD 2) 4 cX5_feed RX5) (RXm l G (rmD 2) 4 cX5_feed RX5 (some .int)) pc (P_X5_feed pc) := fun pc => ok_nd (ok_nd (ok_nd (ok_nd (ok_nd (ok_lf (ok_ILdn d_X5_feed_0 rfl rfl)) (ok_nd (ok_lf (ok_ICst d_X5_feed_1 (by decide) rfl)) (ok_lf (ok_ICst d_X5_feed_2 (by decide) rfl)))) (ok_nd (ok_lf (ok_CaS su_X5_within d_X5_feed_3 q774 q775 q6 q776 ⟨by decide +kernel, by decide +kernel, by decide +kernel⟩ ⟨by decide, by decide⟩ rfl)) (ok_nd (ok_lf (ok_IfNe d_X5_feed_6 (by decide) rfl)) (ok_lf (ok_ALdn d_X5_feed_9 rfl rfl))))) (ok_nd (ok_nd (ok_lf (ok_Ldc d_X5_feed_10 q781 rfl)) (ok_nd (ok_lf (ok_CaV su_X5_finding (by decide) rfl d_X5_feed_12 q782 q784 z56 q6 q785 ⟨by decide +kernel, by decide +kernel, by decide +kernel⟩ ⟨by decide, by decide⟩ rfl)) (ok_lf (ok_IRet d_X5_feed_15)))) (ok_nd (ok_lf (ok_ALdn d_X5_feed_16 rfl rfl)) (ok_nd (ok_lf (ok_GetI (by decide) (by decide) rfl d_X5_feed_17 q711 rfl)) (ok_lf (ok_ILdn d_X5_feed_20 rfl rfl)))))) (ok_nd (ok_nd (ok_nd (ok_lf (ok_iadd d_X5_feed_21 rfl)) (ok_nd (ok_lf (ok_BCst d_X5_feed_22 (by decide) rfl)) (ok_lf (ok_CpLe d_X5_feed_24 (by decide) rfl)))) (ok_nd (ok_lf (ok_ALdn d_X5_feed_27 rfl rfl)) (ok_nd (ok_lf (ok_Ldc d_X5_feed_28 q811 rfl)) (ok_lf (ok_CaV su_X5_finding (by decide) rfl d_X5_feed_30 q782 q784 z56 q6 q785 ⟨by decide +kernel, by decide +kernel, by decide +kernel⟩ ⟨by decide, by decide⟩ rfl))))) (ok_nd (ok_nd (ok_lf (ok_IRet d_X5_feed_33)) (ok_nd (ok_lf (ok_ILdn d_X5_feed_34 rfl rfl)) (ok_lf (ok_ICst d_X5_feed_35 (by decide) rfl)))) (ok_nd (ok_lf (ok_isub d_X5_feed_36 rfl)) (ok_nd (ok_lf (ok_IStn d_X5_feed_37 rfl rfl)) (ok_lf (ok_lk (ok_ILdn d_X5_feed_38 rfl rfl)))))))) (ok_nd (ok_nd (ok_nd (ok_nd (ok_lf (ok_IfLt d_X5_feed_39 (by decide) rfl)) (ok_nd (ok_lf (ok_ALdn d_X5_feed_42 rfl rfl)) (ok_lf (ok_GetR (by decide) (by decide) rfl d_X5_feed_43 q710 rfl)))) (ok_nd (ok_lf (ok_ALdn d_X5_feed_46 rfl rfl)) (ok_nd (ok_lf (ok_GetI (by decide) (by decide) rfl d_X5_feed_47 q711 rfl)) (ok_lf (ok_ILdn d_X5_feed_50 rfl rfl))))) (ok_nd (ok_nd (ok_lf (ok_BCst d_X5_feed_51 (by decide) rfl)) (ok_nd (ok_lf (ok_ILdn d_X5_feed_53 rfl rfl)) (ok_lf (ok_imul d_X5_feed_54 rfl)))) (ok_nd (ok_lf (ok_ishr d_X5_feed_55 rfl)) (ok_nd (ok_lf (ok_SCst d_X5_feed_56 (by decide) rfl)) (ok_lf (ok_iand d_X5_feed_59 rfl)))))) (ok_nd (ok_nd (ok_nd (ok_lf (ok_IAS d_X5_feed_60 rfl)) (ok_nd (ok_lf (ok_ALdn d_X5_feed_61 rfl rfl)) (ok_lf (ok_Dup d_X5_feed_62 rfl)))) (ok_nd (ok_lf (ok_GetI (by decide) (by decide) rfl d_X5_feed_63 q711 rfl)) (ok_nd (ok_lf (ok_ICst d_X5_feed_66 (by decide) rfl)) (ok_lf (ok_iadd d_X5_feed_67 rfl))))) (ok_nd (ok_nd (ok_lf (ok_PutI (by decide) (by decide) rfl rfl (by decide +kernel) d_X5_feed_68 q711 rfl)) (ok_nd (ok_lf (ok_Inc d_X5_feed_71 (by decide) rfl)) (ok_lf (ok_Go d_X5_feed_74 (by decide))))) (ok_nd (ok_lf (ok_ALdn d_X5_feed_77 rfl rfl)) (ok_nd (ok_lf (ok_GetI (by decide) (by decide) rfl d_X5_feed_78 q711 rfl)) (ok_lf (ok_IRet d_X5_feed_81)))))))
noncomputable def S_X5_feed : Sem := lockS (inl P_X5_feed 30000 4) 0
theorem su_X5_feed {l : Launch} {G : Gm} : SemU l G yX5_feed (wsOf yX5_feed cX5_feed 4 (some .int)) 2 S_X5_feed := sem_lock (sem_inl 30000 (by decide +kernel) rfl ok_X5_feed)
theorem d_X5_wipe_0 : decode cX5_wipe 0 = .ok (.aload_n 0, 1) := by decide +kernel
theorem d_X5_wipe_1 : decode cX5_wipe 1 = .ok (.getfield 224, 3) := by decide +kernel
theorem d_X5_wipe_4 : decode cX5_wipe 4 = .ok (.istore_n 1, 1) := by decide +kernel
theorem d_X5_wipe_5 : decode cX5_wipe 5 = .ok (.aload_n 0, 1) := by decide +kernel
theorem d_X5_wipe_6 : decode cX5_wipe 6 = .ok (.iconst 0, 1) := by decide +kernel
theorem d_X5_wipe_7 : decode cX5_wipe 7 = .ok (.putfield 224, 3) := by decide +kernel
theorem d_X5_wipe_10 : decode cX5_wipe 10 = .ok (.iload_n 1, 1) := by decide +kernel
theorem d_X5_wipe_11 : decode cX5_wipe 11 = .ok (.ireturn, 1) := by decide +kernel
noncomputable def P_X5_wipe : Nat → Op := fun pc => nd 6 pc (nd 4 pc (nd 1 pc (lf 0 pc (oALd 0 1)) (lf 1 pc (oGetI 5 8 4))) (nd 5 pc (lf 4 pc (oISt 1 5)) (lf 5 pc (oALd 0 6)))) (nd 10 pc (nd 7 pc (lf 6 pc (oCst 0 7)) (lf 7 pc (oPutI 5 8 10))) (nd 11 pc (lf 10 pc (oILd 1 11)) (lf 11 pc (oIRet))))
theorem ok_X5_wipe {l : Launch} {G : Gm} : ∀ pc, OkU (TXm l G (rmD 1) 2 cX5_wipe RX5) (RXm l G (rmD 1) 2 cX5_wipe RX5 (some .int)) pc (P_X5_wipe pc) := fun pc => ok_nd (ok_nd (ok_nd (ok_lf (ok_ALdn d_X5_wipe_0 rfl rfl)) (ok_lf (ok_GetI (by decide) (by decide) rfl d_X5_wipe_1 q711 rfl))) (ok_nd (ok_lf (ok_IStn d_X5_wipe_4 rfl rfl)) (ok_lf (ok_ALdn d_X5_wipe_5 rfl rfl)))) (ok_nd (ok_nd (ok_lf (ok_ICst d_X5_wipe_6 (by decide) rfl)) (ok_lf (ok_PutI (by decide) (by decide) rfl rfl (by decide +kernel) d_X5_wipe_7 q711 rfl))) (ok_nd (ok_lf (ok_ILdn d_X5_wipe_10 rfl rfl)) (ok_lf (ok_IRet d_X5_wipe_11))))
noncomputable def S_X5_wipe : Sem := lockS (inl P_X5_wipe 10 2) 0
theorem su_X5_wipe {l : Launch} {G : Gm} : SemU l G yX5_wipe (wsOf yX5_wipe cX5_wipe 2 (some .int)) 1 S_X5_wipe := sem_lock (sem_inl 10 (by decide +kernel) rfl ok_X5_wipe)
theorem d_X5_byteAt_0 : decode cX5_byteAt 0 = .ok (.iload_n 1, 1) := by decide +kernel
theorem d_X5_byteAt_1 : decode cX5_byteAt 1 = .ok (.aload_n 0, 1) := by decide +kernel
theorem d_X5_byteAt_2 : decode cX5_byteAt 2 = .ok (.getfield 224, 3) := by decide +kernel
theorem d_X5_byteAt_5 : decode cX5_byteAt 5 = .ok (.if_icmp .ge 12, 3) := by decide +kernel
theorem d_X5_byteAt_8 : decode cX5_byteAt 8 = .ok (.aload_n 0, 1) := by decide +kernel
theorem d_X5_byteAt_9 : decode cX5_byteAt 9 = .ok (.getfield 22, 3) := by decide +kernel
theorem d_X5_byteAt_12 : decode cX5_byteAt 12 = .ok (.iload_n 1, 1) := by decide +kernel
theorem d_X5_byteAt_13 : decode cX5_byteAt 13 = .ok (.iaload, 1) := by decide +kernel
theorem d_X5_byteAt_14 : decode cX5_byteAt 14 = .ok (.goto 4, 3) := by decide +kernel
theorem d_X5_byteAt_17 : decode cX5_byteAt 17 = .ok (.iconst (-1), 1) := by decide +kernel
theorem d_X5_byteAt_18 : decode cX5_byteAt 18 = .ok (.ireturn, 1) := by decide +kernel
noncomputable def P_X5_byteAt : Nat → Op := fun pc => nd 9 pc (nd 2 pc (nd 1 pc (lf 0 pc (oILd 1 1)) (lf 1 pc (oALd 0 2))) (nd 5 pc (lf 2 pc (oGetI 5 8 5)) (nd 8 pc (lf 5 pc (oCpLt 8 17)) (lf 8 pc (oALd 0 9))))) (nd 14 pc (nd 12 pc (lf 9 pc (oGetR 5 7 12)) (nd 13 pc (lf 12 pc (oILd 1 13)) (lf 13 pc (oIAL 14)))) (nd 17 pc (lf 14 pc (oGo 18)) (nd 18 pc (lf 17 pc (oCst (-1) 18)) (lf 18 pc (oIRet)))))
theorem ok_X5_byteAt {l : Launch} {G : Gm} : ∀ pc, OkU (TXm l G (rmD 1) 2 cX5_byteAt RX5) (RXm l G (rmD 1) 2 cX5_byteAt RX5 (some .int)) pc (P_X5_byteAt pc) := fun pc => ok_nd (ok_nd (ok_nd (ok_lf (ok_ILdn d_X5_byteAt_0 rfl rfl)) (ok_lf (ok_ALdn d_X5_byteAt_1 rfl rfl))) (ok_nd (ok_lf (ok_GetI (by decide) (by decide) rfl d_X5_byteAt_2 q711 rfl)) (ok_nd (ok_lf (ok_CpGe d_X5_byteAt_5 (by decide) rfl)) (ok_lf (ok_ALdn d_X5_byteAt_8 rfl rfl))))) (ok_nd (ok_nd (ok_lf (ok_GetR (by decide) (by decide) rfl d_X5_byteAt_9 q710 rfl)) (ok_nd (ok_lf (ok_ILdn d_X5_byteAt_12 rfl rfl)) (ok_lf (ok_IAL d_X5_byteAt_13 rfl)))) (ok_nd (ok_lf (ok_Go d_X5_byteAt_14 (by decide))) (ok_nd (ok_lf (ok_ICst d_X5_byteAt_17 (by decide) rfl)) (ok_lf (ok_IRet d_X5_byteAt_18)))))
noncomputable def S_X5_byteAt : Sem := inl P_X5_byteAt 13 2
theorem su_X5_byteAt {l : Launch} {G : Gm} : SemU l G yX5_byteAt (wsOf yX5_byteAt cX5_byteAt 2 (some .int)) 1 S_X5_byteAt := sem_inl 13 (by decide +kernel) rfl ok_X5_byteAt
theorem d_X5_token_0 : decode cX5_token 0 = .ok (.aload_n 0, 1) := by decide +kernel
theorem d_X5_token_1 : decode cX5_token 1 = .ok (.aload_n 0, 1) := by decide +kernel
theorem d_X5_token_2 : decode cX5_token 2 = .ok (.getfield 227, 3) := by decide +kernel
theorem d_X5_token_5 : decode cX5_token 5 = .ok (.putfield 230, 3) := by decide +kernel
theorem d_X5_token_8 : decode cX5_token 8 = .ok (.aload_n 0, 1) := by decide +kernel
theorem d_X5_token_9 : decode cX5_token 9 = .ok (.aload_n 0, 1) := by decide +kernel
theorem d_X5_token_10 : decode cX5_token 10 = .ok (.getfield 230, 3) := by decide +kernel
theorem d_X5_token_13 : decode cX5_token 13 = .ok (.invokevirtual 233, 3) := by decide +kernel
theorem d_X5_token_16 : decode cX5_token 16 = .ok (.bipush 32, 2) := by decide +kernel
theorem d_X5_token_18 : decode cX5_token 18 = .ok (.if_icmp .ne 16, 3) := by decide +kernel
theorem d_X5_token_21 : decode cX5_token 21 = .ok (.aload_n 0, 1) := by decide +kernel
theorem d_X5_token_22 : decode cX5_token 22 = .ok (.dup, 1) := by decide +kernel
theorem d_X5_token_23 : decode cX5_token 23 = .ok (.getfield 230, 3) := by decide +kernel
theorem d_X5_token_26 : decode cX5_token 26 = .ok (.iconst 1, 1) := by decide +kernel
theorem d_X5_token_27 : decode cX5_token 27 = .ok (.iadd, 1) := by decide +kernel
theorem d_X5_token_28 : decode cX5_token 28 = .ok (.putfield 230, 3) := by decide +kernel
theorem d_X5_token_31 : decode cX5_token 31 = .ok (.goto (-23), 3) := by decide +kernel
theorem d_X5_token_34 : decode cX5_token 34 = .ok (.aload_n 0, 1) := by decide +kernel
theorem d_X5_token_35 : decode cX5_token 35 = .ok (.aload_n 0, 1) := by decide +kernel
theorem d_X5_token_36 : decode cX5_token 36 = .ok (.getfield 230, 3) := by decide +kernel
theorem d_X5_token_39 : decode cX5_token 39 = .ok (.invokevirtual 233, 3) := by decide +kernel
theorem d_X5_token_42 : decode cX5_token 42 = .ok (.istore_n 1, 1) := by decide +kernel
theorem d_X5_token_43 : decode cX5_token 43 = .ok (.aload_n 0, 1) := by decide +kernel
theorem d_X5_token_44 : decode cX5_token 44 = .ok (.aload_n 0, 1) := by decide +kernel
theorem d_X5_token_45 : decode cX5_token 45 = .ok (.getfield 230, 3) := by decide +kernel
theorem d_X5_token_48 : decode cX5_token 48 = .ok (.putfield 227, 3) := by decide +kernel
theorem d_X5_token_51 : decode cX5_token 51 = .ok (.aload_n 0, 1) := by decide +kernel
theorem d_X5_token_52 : decode cX5_token 52 = .ok (.iconst 0, 1) := by decide +kernel
theorem d_X5_token_53 : decode cX5_token 53 = .ok (.putfield 236, 3) := by decide +kernel
theorem d_X5_token_56 : decode cX5_token 56 = .ok (.iload_n 1, 1) := by decide +kernel
theorem d_X5_token_57 : decode cX5_token 57 = .ok (.ifCond .ge 11, 3) := by decide +kernel
theorem d_X5_token_60 : decode cX5_token 60 = .ok (.aload_n 0, 1) := by decide +kernel
theorem d_X5_token_61 : decode cX5_token 61 = .ok (.iconst 0, 1) := by decide +kernel
theorem d_X5_token_62 : decode cX5_token 62 = .ok (.putfield 239, 3) := by decide +kernel
theorem d_X5_token_65 : decode cX5_token 65 = .ok (.goto 141, 3) := by decide +kernel
theorem d_X5_token_68 : decode cX5_token 68 = .ok (.iload_n 1, 1) := by decide +kernel
theorem d_X5_token_69 : decode cX5_token 69 = .ok (.bipush 97, 2) := by decide +kernel
theorem d_X5_token_71 : decode cX5_token 71 = .ok (.bipush 122, 2) := by decide +kernel
theorem d_X5_token_73 : decode cX5_token 73 = .ok (.invokestatic 70, 3) := by decide +kernel
theorem d_X5_token_76 : decode cX5_token 76 = .ok (.ifCond .eq 39, 3) := by decide +kernel
theorem d_X5_token_79 : decode cX5_token 79 = .ok (.aload_n 0, 1) := by decide +kernel
theorem d_X5_token_80 : decode cX5_token 80 = .ok (.iconst 1, 1) := by decide +kernel
theorem d_X5_token_81 : decode cX5_token 81 = .ok (.putfield 239, 3) := by decide +kernel
theorem d_X5_token_84 : decode cX5_token 84 = .ok (.aload_n 0, 1) := by decide +kernel
theorem d_X5_token_85 : decode cX5_token 85 = .ok (.aload_n 0, 1) := by decide +kernel
theorem d_X5_token_86 : decode cX5_token 86 = .ok (.getfield 227, 3) := by decide +kernel
theorem d_X5_token_89 : decode cX5_token 89 = .ok (.invokevirtual 233, 3) := by decide +kernel
theorem d_X5_token_92 : decode cX5_token 92 = .ok (.bipush 97, 2) := by decide +kernel
theorem d_X5_token_94 : decode cX5_token 94 = .ok (.bipush 122, 2) := by decide +kernel
theorem d_X5_token_96 : decode cX5_token 96 = .ok (.invokestatic 70, 3) := by decide +kernel
theorem d_X5_token_99 : decode cX5_token 99 = .ok (.ifCond .eq 107, 3) := by decide +kernel
theorem d_X5_token_102 : decode cX5_token 102 = .ok (.aload_n 0, 1) := by decide +kernel
theorem d_X5_token_103 : decode cX5_token 103 = .ok (.dup, 1) := by decide +kernel
theorem d_X5_token_104 : decode cX5_token 104 = .ok (.getfield 227, 3) := by decide +kernel
theorem d_X5_token_107 : decode cX5_token 107 = .ok (.iconst 1, 1) := by decide +kernel
theorem d_X5_token_108 : decode cX5_token 108 = .ok (.iadd, 1) := by decide +kernel
theorem d_X5_token_109 : decode cX5_token 109 = .ok (.putfield 227, 3) := by decide +kernel
theorem d_X5_token_112 : decode cX5_token 112 = .ok (.goto (-28), 3) := by decide +kernel
theorem d_X5_token_115 : decode cX5_token 115 = .ok (.iload_n 1, 1) := by decide +kernel
theorem d_X5_token_116 : decode cX5_token 116 = .ok (.bipush 48, 2) := by decide +kernel
theorem d_X5_token_118 : decode cX5_token 118 = .ok (.bipush 57, 2) := by decide +kernel
theorem d_X5_token_120 : decode cX5_token 120 = .ok (.invokestatic 70, 3) := by decide +kernel
theorem d_X5_token_123 : decode cX5_token 123 = .ok (.ifCond .eq 68, 3) := by decide +kernel
theorem d_X5_token_126 : decode cX5_token 126 = .ok (.aload_n 0, 1) := by decide +kernel
theorem d_X5_token_127 : decode cX5_token 127 = .ok (.iconst 2, 1) := by decide +kernel
theorem d_X5_token_128 : decode cX5_token 128 = .ok (.putfield 239, 3) := by decide +kernel
theorem d_X5_token_131 : decode cX5_token 131 = .ok (.aload_n 0, 1) := by decide +kernel
theorem d_X5_token_132 : decode cX5_token 132 = .ok (.aload_n 0, 1) := by decide +kernel
theorem d_X5_token_133 : decode cX5_token 133 = .ok (.getfield 227, 3) := by decide +kernel
theorem d_X5_token_136 : decode cX5_token 136 = .ok (.invokevirtual 233, 3) := by decide +kernel
theorem d_X5_token_139 : decode cX5_token 139 = .ok (.bipush 48, 2) := by decide +kernel
theorem d_X5_token_141 : decode cX5_token 141 = .ok (.bipush 57, 2) := by decide +kernel
theorem d_X5_token_143 : decode cX5_token 143 = .ok (.invokestatic 70, 3) := by decide +kernel
theorem d_X5_token_146 : decode cX5_token 146 = .ok (.ifCond .eq 60, 3) := by decide +kernel
theorem d_X5_token_149 : decode cX5_token 149 = .ok (.aload_n 0, 1) := by decide +kernel
theorem d_X5_token_150 : decode cX5_token 150 = .ok (.sipush 1000, 3) := by decide +kernel
theorem d_X5_token_153 : decode cX5_token 153 = .ok (.bipush 10, 2) := by decide +kernel
theorem d_X5_token_155 : decode cX5_token 155 = .ok (.aload_n 0, 1) := by decide +kernel
theorem d_X5_token_156 : decode cX5_token 156 = .ok (.getfield 236, 3) := by decide +kernel
theorem d_X5_token_159 : decode cX5_token 159 = .ok (.imul, 1) := by decide +kernel
theorem d_X5_token_160 : decode cX5_token 160 = .ok (.aload_n 0, 1) := by decide +kernel
theorem d_X5_token_161 : decode cX5_token 161 = .ok (.aload_n 0, 1) := by decide +kernel
theorem d_X5_token_162 : decode cX5_token 162 = .ok (.getfield 227, 3) := by decide +kernel
theorem d_X5_token_165 : decode cX5_token 165 = .ok (.invokevirtual 233, 3) := by decide +kernel
theorem d_X5_token_168 : decode cX5_token 168 = .ok (.iadd, 1) := by decide +kernel
theorem d_X5_token_169 : decode cX5_token 169 = .ok (.bipush 48, 2) := by decide +kernel
theorem d_X5_token_171 : decode cX5_token 171 = .ok (.isub, 1) := by decide +kernel
theorem d_X5_token_172 : decode cX5_token 172 = .ok (.invokestatic 98, 3) := by decide +kernel
theorem d_X5_token_175 : decode cX5_token 175 = .ok (.putfield 236, 3) := by decide +kernel
theorem d_X5_token_178 : decode cX5_token 178 = .ok (.aload_n 0, 1) := by decide +kernel
theorem d_X5_token_179 : decode cX5_token 179 = .ok (.dup, 1) := by decide +kernel
theorem d_X5_token_180 : decode cX5_token 180 = .ok (.getfield 227, 3) := by decide +kernel
theorem d_X5_token_183 : decode cX5_token 183 = .ok (.iconst 1, 1) := by decide +kernel
theorem d_X5_token_184 : decode cX5_token 184 = .ok (.iadd, 1) := by decide +kernel
theorem d_X5_token_185 : decode cX5_token 185 = .ok (.putfield 227, 3) := by decide +kernel
theorem d_X5_token_188 : decode cX5_token 188 = .ok (.goto (-57), 3) := by decide +kernel
theorem d_X5_token_191 : decode cX5_token 191 = .ok (.aload_n 0, 1) := by decide +kernel
theorem d_X5_token_192 : decode cX5_token 192 = .ok (.iconst 3, 1) := by decide +kernel
theorem d_X5_token_193 : decode cX5_token 193 = .ok (.putfield 239, 3) := by decide +kernel
theorem d_X5_token_196 : decode cX5_token 196 = .ok (.aload_n 0, 1) := by decide +kernel
theorem d_X5_token_197 : decode cX5_token 197 = .ok (.dup, 1) := by decide +kernel
theorem d_X5_token_198 : decode cX5_token 198 = .ok (.getfield 227, 3) := by decide +kernel
theorem d_X5_token_201 : decode cX5_token 201 = .ok (.iconst 1, 1) := by decide +kernel
theorem d_X5_token_202 : decode cX5_token 202 = .ok (.iadd, 1) := by decide +kernel
theorem d_X5_token_203 : decode cX5_token 203 = .ok (.putfield 227, 3) := by decide +kernel
theorem d_X5_token_206 : decode cX5_token 206 = .ok (.return_, 1) := by decide +kernel
noncomputable def P_X5_token : Nat → Op := fun pc => nd 104 pc (nd 51 pc (nd 26 pc (nd 10 pc (nd 5 pc (nd 1 pc (lf 0 pc (oALd 0 1)) (nd 2 pc (lf 1 pc (oALd 0 2)) (lf 2 pc (oGetI 5 10 5)))) (nd 8 pc (lf 5 pc (oPutI 5 9 8)) (nd 9 pc (lf 8 pc (lockO (oALd 0 9) 0)) (lf 9 pc (oALd 0 10))))) (nd 18 pc (nd 13 pc (lf 10 pc (oGetI 5 9 13)) (nd 16 pc (lf 13 pc (oCaV 2 5 S_X5_byteAt 16)) (lf 16 pc (oCst 32 18)))) (nd 22 pc (nd 21 pc (lf 18 pc (oCpEq 21 34)) (lf 21 pc (oALd 0 22))) (nd 23 pc (lf 22 pc (oDup 23)) (lf 23 pc (oGetI 5 9 26)))))) (nd 36 pc (nd 31 pc (nd 27 pc (lf 26 pc (oCst 1 27)) (nd 28 pc (lf 27 pc (oBin (fun x y => x + y) 28)) (lf 28 pc (oPutI 5 9 31)))) (nd 34 pc (lf 31 pc (oGo 8)) (nd 35 pc (lf 34 pc (oALd 0 35)) (lf 35 pc (oALd 0 36))))) (nd 43 pc (nd 39 pc (lf 36 pc (oGetI 5 9 39)) (nd 42 pc (lf 39 pc (oCaV 2 5 S_X5_byteAt 42)) (lf 42 pc (oISt 1 43)))) (nd 45 pc (nd 44 pc (lf 43 pc (oALd 0 44)) (lf 44 pc (oALd 0 45))) (nd 48 pc (lf 45 pc (oGetI 5 9 48)) (lf 48 pc (oPutI 5 10 51))))))) (nd 76 pc (nd 61 pc (nd 56 pc (nd 52 pc (lf 51 pc (oALd 0 52)) (nd 53 pc (lf 52 pc (oCst 0 53)) (lf 53 pc (oPutI 5 12 56)))) (nd 57 pc (lf 56 pc (oILd 1 57)) (nd 60 pc (lf 57 pc (oIfLt 60 68)) (lf 60 pc (oALd 0 61))))) (nd 68 pc (nd 62 pc (lf 61 pc (oCst 0 62)) (nd 65 pc (lf 62 pc (oPutI 5 11 65)) (lf 65 pc (oGo 206)))) (nd 71 pc (nd 69 pc (lf 68 pc (oILd 1 69)) (lf 69 pc (oCst 97 71))) (nd 73 pc (lf 71 pc (oCst 122 73)) (lf 73 pc (oCaS 3 S_X5_within 76)))))) (nd 89 pc (nd 81 pc (nd 79 pc (lf 76 pc (oIfEq 115 79)) (nd 80 pc (lf 79 pc (oALd 0 80)) (lf 80 pc (oCst 1 81)))) (nd 85 pc (nd 84 pc (lf 81 pc (oPutI 5 11 84)) (lf 84 pc (lockO (oALd 0 85) 0))) (nd 86 pc (lf 85 pc (oALd 0 86)) (lf 86 pc (oGetI 5 10 89))))) (nd 96 pc (nd 92 pc (lf 89 pc (oCaV 2 5 S_X5_byteAt 92)) (nd 94 pc (lf 92 pc (oCst 97 94)) (lf 94 pc (oCst 122 96)))) (nd 102 pc (nd 99 pc (lf 96 pc (oCaS 3 S_X5_within 99)) (lf 99 pc (oIfEq 206 102))) (nd 103 pc (lf 102 pc (oALd 0 103)) (lf 103 pc (oDup 104)))))))) (nd 159 pc (nd 131 pc (nd 116 pc (nd 109 pc (nd 107 pc (lf 104 pc (oGetI 5 10 107)) (nd 108 pc (lf 107 pc (oCst 1 108)) (lf 108 pc (oBin (fun x y => x + y) 109)))) (nd 112 pc (lf 109 pc (oPutI 5 10 112)) (nd 115 pc (lf 112 pc (oGo 84)) (lf 115 pc (oILd 1 116))))) (nd 123 pc (nd 118 pc (lf 116 pc (oCst 48 118)) (nd 120 pc (lf 118 pc (oCst 57 120)) (lf 120 pc (oCaS 3 S_X5_within 123)))) (nd 127 pc (nd 126 pc (lf 123 pc (oIfEq 191 126)) (lf 126 pc (oALd 0 127))) (nd 128 pc (lf 127 pc (oCst 2 128)) (lf 128 pc (oPutI 5 11 131)))))) (nd 143 pc (nd 136 pc (nd 132 pc (lf 131 pc (lockO (oALd 0 132) 0)) (nd 133 pc (lf 132 pc (oALd 0 133)) (lf 133 pc (oGetI 5 10 136)))) (nd 139 pc (lf 136 pc (oCaV 2 5 S_X5_byteAt 139)) (nd 141 pc (lf 139 pc (oCst 48 141)) (lf 141 pc (oCst 57 143))))) (nd 150 pc (nd 146 pc (lf 143 pc (oCaS 3 S_X5_within 146)) (nd 149 pc (lf 146 pc (oIfEq 206 149)) (lf 149 pc (oALd 0 150)))) (nd 155 pc (nd 153 pc (lf 150 pc (oCst 1000 153)) (lf 153 pc (oCst 10 155))) (nd 156 pc (lf 155 pc (oALd 0 156)) (lf 156 pc (oGetI 5 12 159))))))) (nd 183 pc (nd 169 pc (nd 162 pc (nd 160 pc (lf 159 pc (oBin (fun x y => x * y) 160)) (nd 161 pc (lf 160 pc (oALd 0 161)) (lf 161 pc (oALd 0 162)))) (nd 165 pc (lf 162 pc (oGetI 5 10 165)) (nd 168 pc (lf 165 pc (oCaV 2 5 S_X5_byteAt 168)) (lf 168 pc (oBin (fun x y => x + y) 169))))) (nd 175 pc (nd 171 pc (lf 169 pc (oCst 48 171)) (nd 172 pc (lf 171 pc (oBin (fun x y => x - y) 172)) (lf 172 pc (oMin 175)))) (nd 179 pc (nd 178 pc (lf 175 pc (oPutI 5 12 178)) (lf 178 pc (oALd 0 179))) (nd 180 pc (lf 179 pc (oDup 180)) (lf 180 pc (oGetI 5 10 183)))))) (nd 196 pc (nd 188 pc (nd 184 pc (lf 183 pc (oCst 1 184)) (nd 185 pc (lf 184 pc (oBin (fun x y => x + y) 185)) (lf 185 pc (oPutI 5 10 188)))) (nd 192 pc (nd 191 pc (lf 188 pc (oGo 131)) (lf 191 pc (oALd 0 192))) (nd 193 pc (lf 192 pc (oCst 3 193)) (lf 193 pc (oPutI 5 11 196))))) (nd 201 pc (nd 197 pc (lf 196 pc (oALd 0 197)) (nd 198 pc (lf 197 pc (oDup 198)) (lf 198 pc (oGetI 5 10 201)))) (nd 203 pc (nd 202 pc (lf 201 pc (oCst 1 202)) (lf 202 pc (oBin (fun x y => x + y) 203))) (nd 206 pc (lf 203 pc (oPutI 5 10 206)) (lf 206 pc (oVRet))))))))
theorem ok_X5_token {l : Launch} {G : Gm} : ∀ pc, OkU (TXm l G (rmD 2) 2 cX5_token RX5) (RXm l G (rmD 2) 2 cX5_token RX5 none) pc (P_X5_token pc) := fun pc => ok_nd (ok_nd (ok_nd (ok_nd (ok_nd (ok_nd (ok_lf (ok_ALdn d_X5_token_0 rfl rfl)) (ok_nd (ok_lf (ok_ALdn d_X5_token_1 rfl rfl)) (ok_lf (ok_GetI (by decide) (by decide) rfl d_X5_token_2 q713 rfl)))) (ok_nd (ok_lf (ok_PutI (by decide) (by decide) rfl rfl (by decide +kernel) d_X5_token_5 q712 rfl)) (ok_nd (ok_lf (ok_lk (ok_ALdn d_X5_token_8 rfl rfl))) (ok_lf (ok_ALdn d_X5_token_9 rfl rfl))))) (ok_nd (ok_nd (ok_lf (ok_GetI (by decide) (by decide) rfl d_X5_token_10 q712 rfl)) (ok_nd (ok_lf (ok_CaV su_X5_byteAt (by decide) rfl d_X5_token_13 q1069 q1071 z89 q6 q1072 ⟨by decide +kernel, by decide +kernel, by decide +kernel⟩ ⟨by decide, by decide⟩ rfl)) (ok_lf (ok_BCst d_X5_token_16 (by decide) rfl)))) (ok_nd (ok_nd (ok_lf (ok_CpNe d_X5_token_18 (by decide) rfl)) (ok_lf (ok_ALdn d_X5_token_21 rfl rfl))) (ok_nd (ok_lf (ok_Dup d_X5_token_22 rfl)) (ok_lf (ok_GetI (by decide) (by decide) rfl d_X5_token_23 q712 rfl)))))) (ok_nd (ok_nd (ok_nd (ok_lf (ok_ICst d_X5_token_26 (by decide) rfl)) (ok_nd (ok_lf (ok_iadd d_X5_token_27 rfl)) (ok_lf (ok_PutI (by decide) (by decide) rfl rfl (by decide +kernel) d_X5_token_28 q712 rfl)))) (ok_nd (ok_lf (ok_Go d_X5_token_31 (by decide))) (ok_nd (ok_lf (ok_ALdn d_X5_token_34 rfl rfl)) (ok_lf (ok_ALdn d_X5_token_35 rfl rfl))))) (ok_nd (ok_nd (ok_lf (ok_GetI (by decide) (by decide) rfl d_X5_token_36 q712 rfl)) (ok_nd (ok_lf (ok_CaV su_X5_byteAt (by decide) rfl d_X5_token_39 q1069 q1071 z89 q6 q1072 ⟨by decide +kernel, by decide +kernel, by decide +kernel⟩ ⟨by decide, by decide⟩ rfl)) (ok_lf (ok_IStn d_X5_token_42 rfl rfl)))) (ok_nd (ok_nd (ok_lf (ok_ALdn d_X5_token_43 rfl rfl)) (ok_lf (ok_ALdn d_X5_token_44 rfl rfl))) (ok_nd (ok_lf (ok_GetI (by decide) (by decide) rfl d_X5_token_45 q712 rfl)) (ok_lf (ok_PutI (by decide) (by decide) rfl rfl (by decide +kernel) d_X5_token_48 q713 rfl))))))) (ok_nd (ok_nd (ok_nd (ok_nd (ok_lf (ok_ALdn d_X5_token_51 rfl rfl)) (ok_nd (ok_lf (ok_ICst d_X5_token_52 (by decide) rfl)) (ok_lf (ok_PutI (by decide) (by decide) rfl rfl (by decide +kernel) d_X5_token_53 q715 rfl)))) (ok_nd (ok_lf (ok_ILdn d_X5_token_56 rfl rfl)) (ok_nd (ok_lf (ok_IfGe d_X5_token_57 (by decide) rfl)) (ok_lf (ok_ALdn d_X5_token_60 rfl rfl))))) (ok_nd (ok_nd (ok_lf (ok_ICst d_X5_token_61 (by decide) rfl)) (ok_nd (ok_lf (ok_PutI (by decide) (by decide) rfl rfl (by decide +kernel) d_X5_token_62 q714 rfl)) (ok_lf (ok_Go d_X5_token_65 (by decide))))) (ok_nd (ok_nd (ok_lf (ok_ILdn d_X5_token_68 rfl rfl)) (ok_lf (ok_BCst d_X5_token_69 (by decide) rfl))) (ok_nd (ok_lf (ok_BCst d_X5_token_71 (by decide) rfl)) (ok_lf (ok_CaS su_X5_within d_X5_token_73 q774 q775 q6 q776 ⟨by decide +kernel, by decide +kernel, by decide +kernel⟩ ⟨by decide, by decide⟩ rfl)))))) (ok_nd (ok_nd (ok_nd (ok_lf (ok_IfEq d_X5_token_76 (by decide) rfl)) (ok_nd (ok_lf (ok_ALdn d_X5_token_79 rfl rfl)) (ok_lf (ok_ICst d_X5_token_80 (by decide) rfl)))) (ok_nd (ok_nd (ok_lf (ok_PutI (by decide) (by decide) rfl rfl (by decide +kernel) d_X5_token_81 q714 rfl)) (ok_lf (ok_lk (ok_ALdn d_X5_token_84 rfl rfl)))) (ok_nd (ok_lf (ok_ALdn d_X5_token_85 rfl rfl)) (ok_lf (ok_GetI (by decide) (by decide) rfl d_X5_token_86 q713 rfl))))) (ok_nd (ok_nd (ok_lf (ok_CaV su_X5_byteAt (by decide) rfl d_X5_token_89 q1069 q1071 z89 q6 q1072 ⟨by decide +kernel, by decide +kernel, by decide +kernel⟩ ⟨by decide, by decide⟩ rfl)) (ok_nd (ok_lf (ok_BCst d_X5_token_92 (by decide) rfl)) (ok_lf (ok_BCst d_X5_token_94 (by decide) rfl)))) (ok_nd (ok_nd (ok_lf (ok_CaS su_X5_within d_X5_token_96 q774 q775 q6 q776 ⟨by decide +kernel, by decide +kernel, by decide +kernel⟩ ⟨by decide, by decide⟩ rfl)) (ok_lf (ok_IfEq d_X5_token_99 (by decide) rfl))) (ok_nd (ok_lf (ok_ALdn d_X5_token_102 rfl rfl)) (ok_lf (ok_Dup d_X5_token_103 rfl)))))))) (ok_nd (ok_nd (ok_nd (ok_nd (ok_nd (ok_lf (ok_GetI (by decide) (by decide) rfl d_X5_token_104 q713 rfl)) (ok_nd (ok_lf (ok_ICst d_X5_token_107 (by decide) rfl)) (ok_lf (ok_iadd d_X5_token_108 rfl)))) (ok_nd (ok_lf (ok_PutI (by decide) (by decide) rfl rfl (by decide +kernel) d_X5_token_109 q713 rfl)) (ok_nd (ok_lf (ok_Go d_X5_token_112 (by decide))) (ok_lf (ok_ILdn d_X5_token_115 rfl rfl))))) (ok_nd (ok_nd (ok_lf (ok_BCst d_X5_token_116 (by decide) rfl)) (ok_nd (ok_lf (ok_BCst d_X5_token_118 (by decide) rfl)) (ok_lf (ok_CaS su_X5_within d_X5_token_120 q774 q775 q6 q776 ⟨by decide +kernel, by decide +kernel, by decide +kernel⟩ ⟨by decide, by decide⟩ rfl)))) (ok_nd (ok_nd (ok_lf (ok_IfEq d_X5_token_123 (by decide) rfl)) (ok_lf (ok_ALdn d_X5_token_126 rfl rfl))) (ok_nd (ok_lf (ok_ICst d_X5_token_127 (by decide) rfl)) (ok_lf (ok_PutI (by decide) (by decide) rfl rfl (by decide +kernel) d_X5_token_128 q714 rfl)))))) (ok_nd (ok_nd (ok_nd (ok_lf (ok_lk (ok_ALdn d_X5_token_131 rfl rfl))) (ok_nd (ok_lf (ok_ALdn d_X5_token_132 rfl rfl)) (ok_lf (ok_GetI (by decide) (by decide) rfl d_X5_token_133 q713 rfl)))) (ok_nd (ok_lf (ok_CaV su_X5_byteAt (by decide) rfl d_X5_token_136 q1069 q1071 z89 q6 q1072 ⟨by decide +kernel, by decide +kernel, by decide +kernel⟩ ⟨by decide, by decide⟩ rfl)) (ok_nd (ok_lf (ok_BCst d_X5_token_139 (by decide) rfl)) (ok_lf (ok_BCst d_X5_token_141 (by decide) rfl))))) (ok_nd (ok_nd (ok_lf (ok_CaS su_X5_within d_X5_token_143 q774 q775 q6 q776 ⟨by decide +kernel, by decide +kernel, by decide +kernel⟩ ⟨by decide, by decide⟩ rfl)) (ok_nd (ok_lf (ok_IfEq d_X5_token_146 (by decide) rfl)) (ok_lf (ok_ALdn d_X5_token_149 rfl rfl)))) (ok_nd (ok_nd (ok_lf (ok_SCst d_X5_token_150 (by decide) rfl)) (ok_lf (ok_BCst d_X5_token_153 (by decide) rfl))) (ok_nd (ok_lf (ok_ALdn d_X5_token_155 rfl rfl)) (ok_lf (ok_GetI (by decide) (by decide) rfl d_X5_token_156 q715 rfl))))))) (ok_nd (ok_nd (ok_nd (ok_nd (ok_lf (ok_imul d_X5_token_159 rfl)) (ok_nd (ok_lf (ok_ALdn d_X5_token_160 rfl rfl)) (ok_lf (ok_ALdn d_X5_token_161 rfl rfl)))) (ok_nd (ok_lf (ok_GetI (by decide) (by decide) rfl d_X5_token_162 q713 rfl)) (ok_nd (ok_lf (ok_CaV su_X5_byteAt (by decide) rfl d_X5_token_165 q1069 q1071 z89 q6 q1072 ⟨by decide +kernel, by decide +kernel, by decide +kernel⟩ ⟨by decide, by decide⟩ rfl)) (ok_lf (ok_iadd d_X5_token_168 rfl))))) (ok_nd (ok_nd (ok_lf (ok_BCst d_X5_token_169 (by decide) rfl)) (ok_nd (ok_lf (ok_isub d_X5_token_171 rfl)) (ok_lf (ok_Min d_X5_token_172 q839 q247 q7 q248 ⟨by decide, by decide⟩ rfl)))) (ok_nd (ok_nd (ok_lf (ok_PutI (by decide) (by decide) rfl rfl (by decide +kernel) d_X5_token_175 q715 rfl)) (ok_lf (ok_ALdn d_X5_token_178 rfl rfl))) (ok_nd (ok_lf (ok_Dup d_X5_token_179 rfl)) (ok_lf (ok_GetI (by decide) (by decide) rfl d_X5_token_180 q713 rfl)))))) (ok_nd (ok_nd (ok_nd (ok_lf (ok_ICst d_X5_token_183 (by decide) rfl)) (ok_nd (ok_lf (ok_iadd d_X5_token_184 rfl)) (ok_lf (ok_PutI (by decide) (by decide) rfl rfl (by decide +kernel) d_X5_token_185 q713 rfl)))) (ok_nd (ok_nd (ok_lf (ok_Go d_X5_token_188 (by decide))) (ok_lf (ok_ALdn d_X5_token_191 rfl rfl))) (ok_nd (ok_lf (ok_ICst d_X5_token_192 (by decide) rfl)) (ok_lf (ok_PutI (by decide) (by decide) rfl rfl (by decide +kernel) d_X5_token_193 q714 rfl))))) (ok_nd (ok_nd (ok_lf (ok_ALdn d_X5_token_196 rfl rfl)) (ok_nd (ok_lf (ok_Dup d_X5_token_197 rfl)) (ok_lf (ok_GetI (by decide) (by decide) rfl d_X5_token_198 q713 rfl)))) (ok_nd (ok_nd (ok_lf (ok_ICst d_X5_token_201 (by decide) rfl)) (ok_lf (ok_iadd d_X5_token_202 rfl))) (ok_nd (ok_lf (ok_PutI (by decide) (by decide) rfl rfl (by decide +kernel) d_X5_token_203 q713 rfl)) (ok_lf (ok_VRet d_X5_token_206))))))))
noncomputable def S_X5_token : Sem := lockS (inl P_X5_token 30000 2) 0
theorem su_X5_token {l : Launch} {G : Gm} : SemU l G yX5_token (wsOf yX5_token cX5_token 2 none) 2 S_X5_token := sem_lock (sem_inl 30000 (by decide +kernel) rfl ok_X5_token)
theorem d_X5_isWord_0 : decode cX5_isWord 0 = .ok (.aload_n 0, 1) := by decide +kernel
theorem d_X5_isWord_1 : decode cX5_isWord 1 = .ok (.getfield 239, 3) := by decide +kernel
theorem d_X5_isWord_4 : decode cX5_isWord 4 = .ok (.iconst 1, 1) := by decide +kernel
theorem d_X5_isWord_5 : decode cX5_isWord 5 = .ok (.if_icmp .ne 23, 3) := by decide +kernel
theorem d_X5_isWord_8 : decode cX5_isWord 8 = .ok (.aload_n 0, 1) := by decide +kernel
theorem d_X5_isWord_9 : decode cX5_isWord 9 = .ok (.getfield 227, 3) := by decide +kernel
theorem d_X5_isWord_12 : decode cX5_isWord 12 = .ok (.aload_n 0, 1) := by decide +kernel
theorem d_X5_isWord_13 : decode cX5_isWord 13 = .ok (.getfield 230, 3) := by decide +kernel
theorem d_X5_isWord_16 : decode cX5_isWord 16 = .ok (.isub, 1) := by decide +kernel
theorem d_X5_isWord_17 : decode cX5_isWord 17 = .ok (.aload_n 1, 1) := by decide +kernel
theorem d_X5_isWord_18 : decode cX5_isWord 18 = .ok (.invokevirtual 242, 3) := by decide +kernel
theorem d_X5_isWord_21 : decode cX5_isWord 21 = .ok (.if_icmp .ne 7, 3) := by decide +kernel
theorem d_X5_isWord_24 : decode cX5_isWord 24 = .ok (.iconst 1, 1) := by decide +kernel
theorem d_X5_isWord_25 : decode cX5_isWord 25 = .ok (.goto 4, 3) := by decide +kernel
theorem d_X5_isWord_28 : decode cX5_isWord 28 = .ok (.iconst 0, 1) := by decide +kernel
theorem d_X5_isWord_29 : decode cX5_isWord 29 = .ok (.istore_n 2, 1) := by decide +kernel
theorem d_X5_isWord_30 : decode cX5_isWord 30 = .ok (.iconst 0, 1) := by decide +kernel
theorem d_X5_isWord_31 : decode cX5_isWord 31 = .ok (.istore_n 3, 1) := by decide +kernel
theorem d_X5_isWord_32 : decode cX5_isWord 32 = .ok (.iload_n 3, 1) := by decide +kernel
theorem d_X5_isWord_33 : decode cX5_isWord 33 = .ok (.aload_n 1, 1) := by decide +kernel
theorem d_X5_isWord_34 : decode cX5_isWord 34 = .ok (.invokevirtual 242, 3) := by decide +kernel
theorem d_X5_isWord_37 : decode cX5_isWord 37 = .ok (.if_icmp .ge 38, 3) := by decide +kernel
theorem d_X5_isWord_40 : decode cX5_isWord 40 = .ok (.iload_n 2, 1) := by decide +kernel
theorem d_X5_isWord_41 : decode cX5_isWord 41 = .ok (.ifCond .eq 34, 3) := by decide +kernel
theorem d_X5_isWord_44 : decode cX5_isWord 44 = .ok (.aload_n 0, 1) := by decide +kernel
theorem d_X5_isWord_45 : decode cX5_isWord 45 = .ok (.getfield 22, 3) := by decide +kernel
theorem d_X5_isWord_48 : decode cX5_isWord 48 = .ok (.aload_n 0, 1) := by decide +kernel
theorem d_X5_isWord_49 : decode cX5_isWord 49 = .ok (.getfield 230, 3) := by decide +kernel
theorem d_X5_isWord_52 : decode cX5_isWord 52 = .ok (.iload_n 3, 1) := by decide +kernel
theorem d_X5_isWord_53 : decode cX5_isWord 53 = .ok (.iadd, 1) := by decide +kernel
theorem d_X5_isWord_54 : decode cX5_isWord 54 = .ok (.iaload, 1) := by decide +kernel
theorem d_X5_isWord_55 : decode cX5_isWord 55 = .ok (.aload_n 1, 1) := by decide +kernel
theorem d_X5_isWord_56 : decode cX5_isWord 56 = .ok (.iload_n 3, 1) := by decide +kernel
theorem d_X5_isWord_57 : decode cX5_isWord 57 = .ok (.invokevirtual 245, 3) := by decide +kernel
theorem d_X5_isWord_60 : decode cX5_isWord 60 = .ok (.if_icmp .ne 7, 3) := by decide +kernel
theorem d_X5_isWord_63 : decode cX5_isWord 63 = .ok (.iconst 1, 1) := by decide +kernel
theorem d_X5_isWord_64 : decode cX5_isWord 64 = .ok (.goto 4, 3) := by decide +kernel
theorem d_X5_isWord_67 : decode cX5_isWord 67 = .ok (.iconst 0, 1) := by decide +kernel
theorem d_X5_isWord_68 : decode cX5_isWord 68 = .ok (.istore_n 2, 1) := by decide +kernel
theorem d_X5_isWord_69 : decode cX5_isWord 69 = .ok (.iinc 3 1, 3) := by decide +kernel
theorem d_X5_isWord_72 : decode cX5_isWord 72 = .ok (.goto (-40), 3) := by decide +kernel
theorem d_X5_isWord_75 : decode cX5_isWord 75 = .ok (.iload_n 2, 1) := by decide +kernel
theorem d_X5_isWord_76 : decode cX5_isWord 76 = .ok (.ireturn, 1) := by decide +kernel
noncomputable def P_X5_isWord : Nat → Op := fun pc => nd 37 pc (nd 18 pc (nd 9 pc (nd 4 pc (nd 1 pc (lf 0 pc (oALd 0 1)) (lf 1 pc (oGetI 5 11 4))) (nd 5 pc (lf 4 pc (oCst 1 5)) (nd 8 pc (lf 5 pc (oCpEq 8 28)) (lf 8 pc (oALd 0 9))))) (nd 13 pc (nd 12 pc (lf 9 pc (oGetI 5 10 12)) (lf 12 pc (oALd 0 13))) (nd 16 pc (lf 13 pc (oGetI 5 9 16)) (nd 17 pc (lf 16 pc (oBin (fun x y => x - y) 17)) (lf 17 pc (oALd 1 18)))))) (nd 29 pc (nd 24 pc (nd 21 pc (lf 18 pc (oCaV 1 11 S_J0_length_8abf5 21)) (lf 21 pc (oCpEq 24 28))) (nd 25 pc (lf 24 pc (oCst 1 25)) (nd 28 pc (lf 25 pc (oGo 29)) (lf 28 pc (oCst 0 29))))) (nd 32 pc (nd 30 pc (lf 29 pc (oISt 2 30)) (nd 31 pc (lf 30 pc (oCst 0 31)) (lf 31 pc (oISt 3 32)))) (nd 33 pc (lf 32 pc (lockO (oILd 3 33) 0)) (nd 34 pc (lf 33 pc (oALd 1 34)) (lf 34 pc (oCaV 1 11 S_J0_length_8abf5 37))))))) (nd 56 pc (nd 48 pc (nd 41 pc (nd 40 pc (lf 37 pc (oCpLt 40 75)) (lf 40 pc (oILd 2 41))) (nd 44 pc (lf 41 pc (oIfEq 75 44)) (nd 45 pc (lf 44 pc (oALd 0 45)) (lf 45 pc (oGetR 5 7 48))))) (nd 53 pc (nd 49 pc (lf 48 pc (oALd 0 49)) (nd 52 pc (lf 49 pc (oGetI 5 9 52)) (lf 52 pc (oILd 3 53)))) (nd 54 pc (lf 53 pc (oBin (fun x y => x + y) 54)) (nd 55 pc (lf 54 pc (oIAL 55)) (lf 55 pc (oALd 1 56)))))) (nd 67 pc (nd 60 pc (nd 57 pc (lf 56 pc (oILd 3 57)) (lf 57 pc (oCaV 2 11 S_J0_charAt_5068e 60))) (nd 63 pc (lf 60 pc (oCpEq 63 67)) (nd 64 pc (lf 63 pc (oCst 1 64)) (lf 64 pc (oGo 68))))) (nd 72 pc (nd 68 pc (lf 67 pc (oCst 0 68)) (nd 69 pc (lf 68 pc (oISt 2 69)) (lf 69 pc (oInc 3 1 72)))) (nd 75 pc (lf 72 pc (oGo 32)) (nd 76 pc (lf 75 pc (oILd 2 76)) (lf 76 pc (oZRet)))))))
theorem ok_X5_isWord {l : Launch} {G : Gm} : ∀ pc, OkU (TXm l G (rmD 5) 4 cX5_isWord RX5) (RXm l G (rmD 5) 4 cX5_isWord RX5 (some .boolean)) pc (P_X5_isWord pc) := fun pc => ok_nd (ok_nd (ok_nd (ok_nd (ok_nd (ok_lf (ok_ALdn d_X5_isWord_0 rfl rfl)) (ok_lf (ok_GetI (by decide) (by decide) rfl d_X5_isWord_1 q714 rfl))) (ok_nd (ok_lf (ok_ICst d_X5_isWord_4 (by decide) rfl)) (ok_nd (ok_lf (ok_CpNe d_X5_isWord_5 (by decide) rfl)) (ok_lf (ok_ALdn d_X5_isWord_8 rfl rfl))))) (ok_nd (ok_nd (ok_lf (ok_GetI (by decide) (by decide) rfl d_X5_isWord_9 q713 rfl)) (ok_lf (ok_ALdn d_X5_isWord_12 rfl rfl))) (ok_nd (ok_lf (ok_GetI (by decide) (by decide) rfl d_X5_isWord_13 q712 rfl)) (ok_nd (ok_lf (ok_isub d_X5_isWord_16 rfl)) (ok_lf (ok_ALdn d_X5_isWord_17 rfl rfl)))))) (ok_nd (ok_nd (ok_nd (ok_lf (ok_CaT su_J0_length_8abf5 d_X5_isWord_18 q1081 q535 q536 q10 q537 ⟨by decide +kernel, by decide +kernel, by decide +kernel⟩ ⟨by decide, by decide⟩ rfl)) (ok_lf (ok_CpNe d_X5_isWord_21 (by decide) rfl))) (ok_nd (ok_lf (ok_ICst d_X5_isWord_24 (by decide) rfl)) (ok_nd (ok_lf (ok_Go d_X5_isWord_25 (by decide))) (ok_lf (ok_ICst d_X5_isWord_28 (by decide) rfl))))) (ok_nd (ok_nd (ok_lf (ok_IStn d_X5_isWord_29 rfl rfl)) (ok_nd (ok_lf (ok_ICst d_X5_isWord_30 (by decide) rfl)) (ok_lf (ok_IStn d_X5_isWord_31 rfl rfl)))) (ok_nd (ok_lf (ok_lk (ok_ILdn d_X5_isWord_32 rfl rfl))) (ok_nd (ok_lf (ok_ALdn d_X5_isWord_33 rfl rfl)) (ok_lf (ok_CaT su_J0_length_8abf5 d_X5_isWord_34 q1081 q535 q536 q10 q537 ⟨by decide +kernel, by decide +kernel, by decide +kernel⟩ ⟨by decide, by decide⟩ rfl))))))) (ok_nd (ok_nd (ok_nd (ok_nd (ok_lf (ok_CpGe d_X5_isWord_37 (by decide) rfl)) (ok_lf (ok_ILdn d_X5_isWord_40 rfl rfl))) (ok_nd (ok_lf (ok_IfEq d_X5_isWord_41 (by decide) rfl)) (ok_nd (ok_lf (ok_ALdn d_X5_isWord_44 rfl rfl)) (ok_lf (ok_GetR (by decide) (by decide) rfl d_X5_isWord_45 q710 rfl))))) (ok_nd (ok_nd (ok_lf (ok_ALdn d_X5_isWord_48 rfl rfl)) (ok_nd (ok_lf (ok_GetI (by decide) (by decide) rfl d_X5_isWord_49 q712 rfl)) (ok_lf (ok_ILdn d_X5_isWord_52 rfl rfl)))) (ok_nd (ok_lf (ok_iadd d_X5_isWord_53 rfl)) (ok_nd (ok_lf (ok_IAL d_X5_isWord_54 rfl)) (ok_lf (ok_ALdn d_X5_isWord_55 rfl rfl)))))) (ok_nd (ok_nd (ok_nd (ok_lf (ok_ILdn d_X5_isWord_56 rfl rfl)) (ok_lf (ok_CaT su_J0_charAt_5068e d_X5_isWord_57 q1082 q545 q546 q10 q547 ⟨by decide +kernel, by decide +kernel, by decide +kernel⟩ ⟨by decide, by decide⟩ rfl))) (ok_nd (ok_lf (ok_CpNe d_X5_isWord_60 (by decide) rfl)) (ok_nd (ok_lf (ok_ICst d_X5_isWord_63 (by decide) rfl)) (ok_lf (ok_Go d_X5_isWord_64 (by decide)))))) (ok_nd (ok_nd (ok_lf (ok_ICst d_X5_isWord_67 (by decide) rfl)) (ok_nd (ok_lf (ok_IStn d_X5_isWord_68 rfl rfl)) (ok_lf (ok_Inc d_X5_isWord_69 (by decide) rfl)))) (ok_nd (ok_lf (ok_Go d_X5_isWord_72 (by decide))) (ok_nd (ok_lf (ok_ILdn d_X5_isWord_75 rfl rfl)) (ok_lf (ok_ZRet d_X5_isWord_76)))))))
noncomputable def S_X5_isWord : Sem := lockS (inl P_X5_isWord 30000 4) 0
theorem su_X5_isWord {l : Launch} {G : Gm} : SemU l G yX5_isWord (wsOf yX5_isWord cX5_isWord 4 (some .boolean)) 5 S_X5_isWord := sem_lock (sem_inl 30000 (by decide +kernel) rfl ok_X5_isWord)
theorem d_X5_must_0 : decode cX5_must 0 = .ok (.aload_n 0, 1) := by decide +kernel
theorem d_X5_must_1 : decode cX5_must 1 = .ok (.aload_n 0, 1) := by decide +kernel
theorem d_X5_must_2 : decode cX5_must 2 = .ok (.getfield 249, 3) := by decide +kernel
theorem d_X5_must_5 : decode cX5_must 5 = .ok (.ifCond .ne 7, 3) := by decide +kernel
theorem d_X5_must_8 : decode cX5_must 8 = .ok (.iload_n 1, 1) := by decide +kernel
theorem d_X5_must_9 : decode cX5_must 9 = .ok (.ifCond .ne 7, 3) := by decide +kernel
theorem d_X5_must_12 : decode cX5_must 12 = .ok (.iconst 1, 1) := by decide +kernel
theorem d_X5_must_13 : decode cX5_must 13 = .ok (.goto 4, 3) := by decide +kernel
theorem d_X5_must_16 : decode cX5_must 16 = .ok (.iconst 0, 1) := by decide +kernel
theorem d_X5_must_17 : decode cX5_must 17 = .ok (.putfield 249, 3) := by decide +kernel
theorem d_X5_must_20 : decode cX5_must 20 = .ok (.aload_n 0, 1) := by decide +kernel
theorem d_X5_must_21 : decode cX5_must 21 = .ok (.getfield 249, 3) := by decide +kernel
theorem d_X5_must_24 : decode cX5_must 24 = .ok (.ifCond .ne 7, 3) := by decide +kernel
theorem d_X5_must_27 : decode cX5_must 27 = .ok (.aload_n 0, 1) := by decide +kernel
theorem d_X5_must_28 : decode cX5_must 28 = .ok (.invokevirtual 253, 3) := by decide +kernel
theorem d_X5_must_31 : decode cX5_must 31 = .ok (.return_, 1) := by decide +kernel
noncomputable def P_X5_must : Nat → Op := fun pc => nd 16 pc (nd 8 pc (nd 2 pc (nd 1 pc (lf 0 pc (oALd 0 1)) (lf 1 pc (oALd 0 2))) (nd 5 pc (lf 2 pc (oGetI 5 13 5)) (lf 5 pc (oIfEq 8 12)))) (nd 12 pc (nd 9 pc (lf 8 pc (oILd 1 9)) (lf 9 pc (oIfEq 12 16))) (nd 13 pc (lf 12 pc (oCst 1 13)) (lf 13 pc (oGo 17))))) (nd 24 pc (nd 20 pc (nd 17 pc (lf 16 pc (oCst 0 17)) (lf 17 pc (oPutZ 5 13 20))) (nd 21 pc (lf 20 pc (oALd 0 21)) (lf 21 pc (oGetI 5 13 24)))) (nd 28 pc (nd 27 pc (lf 24 pc (oIfEq 27 31)) (lf 27 pc (oALd 0 28))) (nd 31 pc (lf 28 pc (oCaV 1 5 S_X5_token 31)) (lf 31 pc (oVRet)))))
theorem ok_X5_must {l : Launch} {G : Gm} : ∀ pc, OkU (TXm l G (rmD 3) 2 cX5_must RX5) (RXm l G (rmD 3) 2 cX5_must RX5 none) pc (P_X5_must pc) := fun pc => ok_nd (ok_nd (ok_nd (ok_nd (ok_lf (ok_ALdn d_X5_must_0 rfl rfl)) (ok_lf (ok_ALdn d_X5_must_1 rfl rfl))) (ok_nd (ok_lf (ok_GetI (by decide) (by decide) rfl d_X5_must_2 q716 rfl)) (ok_lf (ok_IfNe d_X5_must_5 (by decide) rfl)))) (ok_nd (ok_nd (ok_lf (ok_ILdn d_X5_must_8 rfl rfl)) (ok_lf (ok_IfNe d_X5_must_9 (by decide) rfl))) (ok_nd (ok_lf (ok_ICst d_X5_must_12 (by decide) rfl)) (ok_lf (ok_Go d_X5_must_13 (by decide)))))) (ok_nd (ok_nd (ok_nd (ok_lf (ok_ICst d_X5_must_16 (by decide) rfl)) (ok_lf (ok_PutZ (by decide) (by decide) rfl rfl (by decide +kernel) d_X5_must_17 q716 rfl))) (ok_nd (ok_lf (ok_ALdn d_X5_must_20 rfl rfl)) (ok_lf (ok_GetI (by decide) (by decide) rfl d_X5_must_21 q716 rfl)))) (ok_nd (ok_nd (ok_lf (ok_IfNe d_X5_must_24 (by decide) rfl)) (ok_lf (ok_ALdn d_X5_must_27 rfl rfl))) (ok_nd (ok_lf (ok_CaV su_X5_token (by decide) rfl d_X5_must_28 q1065 q1067 z88 q6 q1068 ⟨by decide +kernel, by decide +kernel, by decide +kernel⟩ ⟨by decide, by decide⟩ rfl)) (ok_lf (ok_VRet d_X5_must_31)))))
noncomputable def S_X5_must : Sem := lockS (inl P_X5_must 18 2) 0
theorem su_X5_must {l : Launch} {G : Gm} : SemU l G yX5_must (wsOf yX5_must cX5_must 2 none) 3 S_X5_must := sem_lock (sem_inl 18 (by decide +kernel) rfl ok_X5_must)
theorem d_X5_number_0 : decode cX5_number 0 = .ok (.aload_n 0, 1) := by decide +kernel
theorem d_X5_number_1 : decode cX5_number 1 = .ok (.getfield 236, 3) := by decide +kernel
theorem d_X5_number_4 : decode cX5_number 4 = .ok (.istore_n 3, 1) := by decide +kernel
theorem d_X5_number_5 : decode cX5_number 5 = .ok (.aload_n 0, 1) := by decide +kernel
theorem d_X5_number_6 : decode cX5_number 6 = .ok (.aload_n 0, 1) := by decide +kernel
theorem d_X5_number_7 : decode cX5_number 7 = .ok (.getfield 239, 3) := by decide +kernel
theorem d_X5_number_10 : decode cX5_number 10 = .ok (.iconst 2, 1) := by decide +kernel
theorem d_X5_number_11 : decode cX5_number 11 = .ok (.if_icmp .ne 16, 3) := by decide +kernel
theorem d_X5_number_14 : decode cX5_number 14 = .ok (.iload_n 3, 1) := by decide +kernel
theorem d_X5_number_15 : decode cX5_number 15 = .ok (.iload_n 1, 1) := by decide +kernel
theorem d_X5_number_16 : decode cX5_number 16 = .ok (.iload_n 2, 1) := by decide +kernel
theorem d_X5_number_17 : decode cX5_number 17 = .ok (.invokestatic 70, 3) := by decide +kernel
theorem d_X5_number_20 : decode cX5_number 20 = .ok (.ifCond .eq 7, 3) := by decide +kernel
theorem d_X5_number_23 : decode cX5_number 23 = .ok (.iconst 1, 1) := by decide +kernel
theorem d_X5_number_24 : decode cX5_number 24 = .ok (.goto 4, 3) := by decide +kernel
theorem d_X5_number_27 : decode cX5_number 27 = .ok (.iconst 0, 1) := by decide +kernel
theorem d_X5_number_28 : decode cX5_number 28 = .ok (.invokevirtual 256, 3) := by decide +kernel
theorem d_X5_number_31 : decode cX5_number 31 = .ok (.iload_n 3, 1) := by decide +kernel
theorem d_X5_number_32 : decode cX5_number 32 = .ok (.ireturn, 1) := by decide +kernel
noncomputable def P_X5_number : Nat → Op := fun pc => nd 15 pc (nd 6 pc (nd 4 pc (nd 1 pc (lf 0 pc (oALd 0 1)) (lf 1 pc (oGetI 5 12 4))) (nd 5 pc (lf 4 pc (oISt 3 5)) (lf 5 pc (oALd 0 6)))) (nd 10 pc (nd 7 pc (lf 6 pc (oALd 0 7)) (lf 7 pc (oGetI 5 11 10))) (nd 11 pc (lf 10 pc (oCst 2 11)) (nd 14 pc (lf 11 pc (oCpEq 14 27)) (lf 14 pc (oILd 3 15)))))) (nd 24 pc (nd 17 pc (nd 16 pc (lf 15 pc (oILd 1 16)) (lf 16 pc (oILd 2 17))) (nd 20 pc (lf 17 pc (oCaS 3 S_X5_within 20)) (nd 23 pc (lf 20 pc (oIfEq 27 23)) (lf 23 pc (oCst 1 24))))) (nd 28 pc (nd 27 pc (lf 24 pc (oGo 28)) (lf 27 pc (oCst 0 28))) (nd 31 pc (lf 28 pc (oCaV 2 5 S_X5_must 31)) (nd 32 pc (lf 31 pc (oILd 3 32)) (lf 32 pc (oIRet))))))
theorem ok_X5_number {l : Launch} {G : Gm} : ∀ pc, OkU (TXm l G (rmD 4) 4 cX5_number RX5) (RXm l G (rmD 4) 4 cX5_number RX5 (some .int)) pc (P_X5_number pc) := fun pc => ok_nd (ok_nd (ok_nd (ok_nd (ok_lf (ok_ALdn d_X5_number_0 rfl rfl)) (ok_lf (ok_GetI (by decide) (by decide) rfl d_X5_number_1 q715 rfl))) (ok_nd (ok_lf (ok_IStn d_X5_number_4 rfl rfl)) (ok_lf (ok_ALdn d_X5_number_5 rfl rfl)))) (ok_nd (ok_nd (ok_lf (ok_ALdn d_X5_number_6 rfl rfl)) (ok_lf (ok_GetI (by decide) (by decide) rfl d_X5_number_7 q714 rfl))) (ok_nd (ok_lf (ok_ICst d_X5_number_10 (by decide) rfl)) (ok_nd (ok_lf (ok_CpNe d_X5_number_11 (by decide) rfl)) (ok_lf (ok_ILdn d_X5_number_14 rfl rfl)))))) (ok_nd (ok_nd (ok_nd (ok_lf (ok_ILdn d_X5_number_15 rfl rfl)) (ok_lf (ok_ILdn d_X5_number_16 rfl rfl))) (ok_nd (ok_lf (ok_CaS su_X5_within d_X5_number_17 q774 q775 q6 q776 ⟨by decide +kernel, by decide +kernel, by decide +kernel⟩ ⟨by decide, by decide⟩ rfl)) (ok_nd (ok_lf (ok_IfEq d_X5_number_20 (by decide) rfl)) (ok_lf (ok_ICst d_X5_number_23 (by decide) rfl))))) (ok_nd (ok_nd (ok_lf (ok_Go d_X5_number_24 (by decide))) (ok_lf (ok_ICst d_X5_number_27 (by decide) rfl))) (ok_nd (ok_lf (ok_CaV su_X5_must (by decide) rfl d_X5_number_28 q1087 q1089 z93 q6 q1090 ⟨by decide +kernel, by decide +kernel, by decide +kernel⟩ ⟨by decide, by decide⟩ rfl)) (ok_nd (ok_lf (ok_ILdn d_X5_number_31 rfl rfl)) (ok_lf (ok_IRet d_X5_number_32))))))
noncomputable def S_X5_number : Sem := lockS (inl P_X5_number 21 4) 0
theorem su_X5_number {l : Launch} {G : Gm} : SemU l G yX5_number (wsOf yX5_number cX5_number 4 (some .int)) 4 S_X5_number := sem_lock (sem_inl 21 (by decide +kernel) rfl ok_X5_number)
theorem d_X5_addItem_0 : decode cX5_addItem 0 = .ok (.iconst 4, 1) := by decide +kernel
theorem d_X5_addItem_1 : decode cX5_addItem 1 = .ok (.aload_n 0, 1) := by decide +kernel
theorem d_X5_addItem_2 : decode cX5_addItem 2 = .ok (.getfield 260, 3) := by decide +kernel
theorem d_X5_addItem_5 : decode cX5_addItem 5 = .ok (.imul, 1) := by decide +kernel
theorem d_X5_addItem_6 : decode cX5_addItem 6 = .ok (.istore 5, 2) := by decide +kernel
theorem d_X5_addItem_8 : decode cX5_addItem 8 = .ok (.aload_n 0, 1) := by decide +kernel
theorem d_X5_addItem_9 : decode cX5_addItem 9 = .ok (.getfield 45, 3) := by decide +kernel
theorem d_X5_addItem_12 : decode cX5_addItem 12 = .ok (.iload 5, 2) := by decide +kernel
theorem d_X5_addItem_14 : decode cX5_addItem 14 = .ok (.iload_n 1, 1) := by decide +kernel
theorem d_X5_addItem_15 : decode cX5_addItem 15 = .ok (.iastore, 1) := by decide +kernel
theorem d_X5_addItem_16 : decode cX5_addItem 16 = .ok (.aload_n 0, 1) := by decide +kernel
theorem d_X5_addItem_17 : decode cX5_addItem 17 = .ok (.getfield 45, 3) := by decide +kernel
theorem d_X5_addItem_20 : decode cX5_addItem 20 = .ok (.iload 5, 2) := by decide +kernel
theorem d_X5_addItem_22 : decode cX5_addItem 22 = .ok (.iconst 1, 1) := by decide +kernel
theorem d_X5_addItem_23 : decode cX5_addItem 23 = .ok (.iadd, 1) := by decide +kernel
theorem d_X5_addItem_24 : decode cX5_addItem 24 = .ok (.iload_n 2, 1) := by decide +kernel
theorem d_X5_addItem_25 : decode cX5_addItem 25 = .ok (.iastore, 1) := by decide +kernel
theorem d_X5_addItem_26 : decode cX5_addItem 26 = .ok (.aload_n 0, 1) := by decide +kernel
theorem d_X5_addItem_27 : decode cX5_addItem 27 = .ok (.getfield 45, 3) := by decide +kernel
theorem d_X5_addItem_30 : decode cX5_addItem 30 = .ok (.iload 5, 2) := by decide +kernel
theorem d_X5_addItem_32 : decode cX5_addItem 32 = .ok (.iconst 2, 1) := by decide +kernel
theorem d_X5_addItem_33 : decode cX5_addItem 33 = .ok (.iadd, 1) := by decide +kernel
theorem d_X5_addItem_34 : decode cX5_addItem 34 = .ok (.iload_n 3, 1) := by decide +kernel
theorem d_X5_addItem_35 : decode cX5_addItem 35 = .ok (.iastore, 1) := by decide +kernel
theorem d_X5_addItem_36 : decode cX5_addItem 36 = .ok (.aload_n 0, 1) := by decide +kernel
theorem d_X5_addItem_37 : decode cX5_addItem 37 = .ok (.getfield 45, 3) := by decide +kernel
theorem d_X5_addItem_40 : decode cX5_addItem 40 = .ok (.iload 5, 2) := by decide +kernel
theorem d_X5_addItem_42 : decode cX5_addItem 42 = .ok (.iconst 3, 1) := by decide +kernel
theorem d_X5_addItem_43 : decode cX5_addItem 43 = .ok (.iadd, 1) := by decide +kernel
theorem d_X5_addItem_44 : decode cX5_addItem 44 = .ok (.iload 4, 2) := by decide +kernel
theorem d_X5_addItem_46 : decode cX5_addItem 46 = .ok (.iastore, 1) := by decide +kernel
theorem d_X5_addItem_47 : decode cX5_addItem 47 = .ok (.aload_n 0, 1) := by decide +kernel
theorem d_X5_addItem_48 : decode cX5_addItem 48 = .ok (.dup, 1) := by decide +kernel
theorem d_X5_addItem_49 : decode cX5_addItem 49 = .ok (.getfield 260, 3) := by decide +kernel
theorem d_X5_addItem_52 : decode cX5_addItem 52 = .ok (.iconst 1, 1) := by decide +kernel
theorem d_X5_addItem_53 : decode cX5_addItem 53 = .ok (.iadd, 1) := by decide +kernel
theorem d_X5_addItem_54 : decode cX5_addItem 54 = .ok (.putfield 260, 3) := by decide +kernel
theorem d_X5_addItem_57 : decode cX5_addItem 57 = .ok (.return_, 1) := by decide +kernel
noncomputable def P_X5_addItem : Nat → Op := fun pc => nd 30 pc (nd 15 pc (nd 6 pc (nd 2 pc (nd 1 pc (lf 0 pc (oCst 4 1)) (lf 1 pc (oALd 0 2))) (nd 5 pc (lf 2 pc (oGetI 5 16 5)) (lf 5 pc (oBin (fun x y => x * y) 6)))) (nd 9 pc (nd 8 pc (lf 6 pc (oISt 5 8)) (lf 8 pc (oALd 0 9))) (nd 12 pc (lf 9 pc (oGetR 5 15 12)) (nd 14 pc (lf 12 pc (oILd 5 14)) (lf 14 pc (oILd 1 15)))))) (nd 23 pc (nd 17 pc (nd 16 pc (lf 15 pc (oIAS 16)) (lf 16 pc (oALd 0 17))) (nd 20 pc (lf 17 pc (oGetR 5 15 20)) (nd 22 pc (lf 20 pc (oILd 5 22)) (lf 22 pc (oCst 1 23))))) (nd 25 pc (nd 24 pc (lf 23 pc (oBin (fun x y => x + y) 24)) (lf 24 pc (oILd 2 25))) (nd 26 pc (lf 25 pc (oIAS 26)) (nd 27 pc (lf 26 pc (oALd 0 27)) (lf 27 pc (oGetR 5 15 30))))))) (nd 43 pc (nd 35 pc (nd 33 pc (nd 32 pc (lf 30 pc (oILd 5 32)) (lf 32 pc (oCst 2 33))) (nd 34 pc (lf 33 pc (oBin (fun x y => x + y) 34)) (lf 34 pc (oILd 3 35)))) (nd 37 pc (nd 36 pc (lf 35 pc (oIAS 36)) (lf 36 pc (oALd 0 37))) (nd 40 pc (lf 37 pc (oGetR 5 15 40)) (nd 42 pc (lf 40 pc (oILd 5 42)) (lf 42 pc (oCst 3 43)))))) (nd 49 pc (nd 46 pc (nd 44 pc (lf 43 pc (oBin (fun x y => x + y) 44)) (lf 44 pc (oILd 4 46))) (nd 47 pc (lf 46 pc (oIAS 47)) (nd 48 pc (lf 47 pc (oALd 0 48)) (lf 48 pc (oDup 49))))) (nd 53 pc (nd 52 pc (lf 49 pc (oGetI 5 16 52)) (lf 52 pc (oCst 1 53))) (nd 54 pc (lf 53 pc (oBin (fun x y => x + y) 54)) (nd 57 pc (lf 54 pc (oPutI 5 16 57)) (lf 57 pc (oVRet)))))))
theorem ok_X5_addItem {l : Launch} {G : Gm} : ∀ pc, OkU (TXm l G (rmD 1) 6 cX5_addItem RX5) (RXm l G (rmD 1) 6 cX5_addItem RX5 none) pc (P_X5_addItem pc) := fun pc => ok_nd (ok_nd (ok_nd (ok_nd (ok_nd (ok_lf (ok_ICst d_X5_addItem_0 (by decide) rfl)) (ok_lf (ok_ALdn d_X5_addItem_1 rfl rfl))) (ok_nd (ok_lf (ok_GetI (by decide) (by decide) rfl d_X5_addItem_2 q719 rfl)) (ok_lf (ok_imul d_X5_addItem_5 rfl)))) (ok_nd (ok_nd (ok_lf (ok_ISt d_X5_addItem_6 rfl)) (ok_lf (ok_ALdn d_X5_addItem_8 rfl rfl))) (ok_nd (ok_lf (ok_GetR (by decide) (by decide) rfl d_X5_addItem_9 q718 rfl)) (ok_nd (ok_lf (ok_ILd d_X5_addItem_12 rfl)) (ok_lf (ok_ILdn d_X5_addItem_14 rfl rfl)))))) (ok_nd (ok_nd (ok_nd (ok_lf (ok_IAS d_X5_addItem_15 rfl)) (ok_lf (ok_ALdn d_X5_addItem_16 rfl rfl))) (ok_nd (ok_lf (ok_GetR (by decide) (by decide) rfl d_X5_addItem_17 q718 rfl)) (ok_nd (ok_lf (ok_ILd d_X5_addItem_20 rfl)) (ok_lf (ok_ICst d_X5_addItem_22 (by decide) rfl))))) (ok_nd (ok_nd (ok_lf (ok_iadd d_X5_addItem_23 rfl)) (ok_lf (ok_ILdn d_X5_addItem_24 rfl rfl))) (ok_nd (ok_lf (ok_IAS d_X5_addItem_25 rfl)) (ok_nd (ok_lf (ok_ALdn d_X5_addItem_26 rfl rfl)) (ok_lf (ok_GetR (by decide) (by decide) rfl d_X5_addItem_27 q718 rfl))))))) (ok_nd (ok_nd (ok_nd (ok_nd (ok_lf (ok_ILd d_X5_addItem_30 rfl)) (ok_lf (ok_ICst d_X5_addItem_32 (by decide) rfl))) (ok_nd (ok_lf (ok_iadd d_X5_addItem_33 rfl)) (ok_lf (ok_ILdn d_X5_addItem_34 rfl rfl)))) (ok_nd (ok_nd (ok_lf (ok_IAS d_X5_addItem_35 rfl)) (ok_lf (ok_ALdn d_X5_addItem_36 rfl rfl))) (ok_nd (ok_lf (ok_GetR (by decide) (by decide) rfl d_X5_addItem_37 q718 rfl)) (ok_nd (ok_lf (ok_ILd d_X5_addItem_40 rfl)) (ok_lf (ok_ICst d_X5_addItem_42 (by decide) rfl)))))) (ok_nd (ok_nd (ok_nd (ok_lf (ok_iadd d_X5_addItem_43 rfl)) (ok_lf (ok_ILd d_X5_addItem_44 rfl))) (ok_nd (ok_lf (ok_IAS d_X5_addItem_46 rfl)) (ok_nd (ok_lf (ok_ALdn d_X5_addItem_47 rfl rfl)) (ok_lf (ok_Dup d_X5_addItem_48 rfl))))) (ok_nd (ok_nd (ok_lf (ok_GetI (by decide) (by decide) rfl d_X5_addItem_49 q719 rfl)) (ok_lf (ok_ICst d_X5_addItem_52 (by decide) rfl))) (ok_nd (ok_lf (ok_iadd d_X5_addItem_53 rfl)) (ok_nd (ok_lf (ok_PutI (by decide) (by decide) rfl rfl (by decide +kernel) d_X5_addItem_54 q719 rfl)) (ok_lf (ok_VRet d_X5_addItem_57)))))))
noncomputable def S_X5_addItem : Sem := lockS (inl P_X5_addItem 40 6) 0
theorem su_X5_addItem {l : Launch} {G : Gm} : SemU l G yX5_addItem (wsOf yX5_addItem cX5_addItem 6 none) 1 S_X5_addItem := sem_lock (sem_inl 40 (by decide +kernel) rfl ok_X5_addItem)
theorem d_X5_takesWord_0 : decode cX5_takesWord 0 = .ok (.aload_n 0, 1) := by decide +kernel
theorem d_X5_takesWord_1 : decode cX5_takesWord 1 = .ok (.getfield 249, 3) := by decide +kernel
theorem d_X5_takesWord_4 : decode cX5_takesWord 4 = .ok (.ifCond .ne 15, 3) := by decide +kernel
theorem d_X5_takesWord_7 : decode cX5_takesWord 7 = .ok (.aload_n 0, 1) := by decide +kernel
theorem d_X5_takesWord_8 : decode cX5_takesWord 8 = .ok (.aload_n 1, 1) := by decide +kernel
theorem d_X5_takesWord_9 : decode cX5_takesWord 9 = .ok (.invokevirtual 263, 3) := by decide +kernel
theorem d_X5_takesWord_12 : decode cX5_takesWord 12 = .ok (.ifCond .eq 7, 3) := by decide +kernel
theorem d_X5_takesWord_15 : decode cX5_takesWord 15 = .ok (.iconst 1, 1) := by decide +kernel
theorem d_X5_takesWord_16 : decode cX5_takesWord 16 = .ok (.goto 4, 3) := by decide +kernel
theorem d_X5_takesWord_19 : decode cX5_takesWord 19 = .ok (.iconst 0, 1) := by decide +kernel
theorem d_X5_takesWord_20 : decode cX5_takesWord 20 = .ok (.istore_n 2, 1) := by decide +kernel
theorem d_X5_takesWord_21 : decode cX5_takesWord 21 = .ok (.iload_n 2, 1) := by decide +kernel
theorem d_X5_takesWord_22 : decode cX5_takesWord 22 = .ok (.ifCond .eq 8, 3) := by decide +kernel
theorem d_X5_takesWord_25 : decode cX5_takesWord 25 = .ok (.aload_n 0, 1) := by decide +kernel
theorem d_X5_takesWord_26 : decode cX5_takesWord 26 = .ok (.iconst 1, 1) := by decide +kernel
theorem d_X5_takesWord_27 : decode cX5_takesWord 27 = .ok (.invokevirtual 256, 3) := by decide +kernel
theorem d_X5_takesWord_30 : decode cX5_takesWord 30 = .ok (.iload_n 2, 1) := by decide +kernel
theorem d_X5_takesWord_31 : decode cX5_takesWord 31 = .ok (.ireturn, 1) := by decide +kernel
noncomputable def P_X5_takesWord : Nat → Op := fun pc => nd 19 pc (nd 8 pc (nd 4 pc (nd 1 pc (lf 0 pc (oALd 0 1)) (lf 1 pc (oGetI 5 13 4))) (nd 7 pc (lf 4 pc (oIfEq 7 19)) (lf 7 pc (oALd 0 8)))) (nd 12 pc (nd 9 pc (lf 8 pc (oALd 1 9)) (lf 9 pc (oCaV 2 5 S_X5_isWord 12))) (nd 15 pc (lf 12 pc (oIfEq 19 15)) (nd 16 pc (lf 15 pc (oCst 1 16)) (lf 16 pc (oGo 20)))))) (nd 25 pc (nd 21 pc (nd 20 pc (lf 19 pc (oCst 0 20)) (lf 20 pc (oISt 2 21))) (nd 22 pc (lf 21 pc (oILd 2 22)) (lf 22 pc (oIfEq 30 25)))) (nd 27 pc (nd 26 pc (lf 25 pc (oALd 0 26)) (lf 26 pc (oCst 1 27))) (nd 30 pc (lf 27 pc (oCaV 2 5 S_X5_must 30)) (nd 31 pc (lf 30 pc (oILd 2 31)) (lf 31 pc (oZRet))))))
theorem ok_X5_takesWord {l : Launch} {G : Gm} : ∀ pc, OkU (TXm l G (rmD 6) 3 cX5_takesWord RX5) (RXm l G (rmD 6) 3 cX5_takesWord RX5 (some .boolean)) pc (P_X5_takesWord pc) := fun pc => ok_nd (ok_nd (ok_nd (ok_nd (ok_lf (ok_ALdn d_X5_takesWord_0 rfl rfl)) (ok_lf (ok_GetI (by decide) (by decide) rfl d_X5_takesWord_1 q716 rfl))) (ok_nd (ok_lf (ok_IfNe d_X5_takesWord_4 (by decide) rfl)) (ok_lf (ok_ALdn d_X5_takesWord_7 rfl rfl)))) (ok_nd (ok_nd (ok_lf (ok_ALdn d_X5_takesWord_8 rfl rfl)) (ok_lf (ok_CaV su_X5_isWord (by decide) rfl d_X5_takesWord_9 q1077 q1079 z91 q6 q1080 ⟨by decide +kernel, by decide +kernel, by decide +kernel⟩ ⟨by decide, by decide⟩ rfl))) (ok_nd (ok_lf (ok_IfEq d_X5_takesWord_12 (by decide) rfl)) (ok_nd (ok_lf (ok_ICst d_X5_takesWord_15 (by decide) rfl)) (ok_lf (ok_Go d_X5_takesWord_16 (by decide))))))) (ok_nd (ok_nd (ok_nd (ok_lf (ok_ICst d_X5_takesWord_19 (by decide) rfl)) (ok_lf (ok_IStn d_X5_takesWord_20 rfl rfl))) (ok_nd (ok_lf (ok_ILdn d_X5_takesWord_21 rfl rfl)) (ok_lf (ok_IfEq d_X5_takesWord_22 (by decide) rfl)))) (ok_nd (ok_nd (ok_lf (ok_ALdn d_X5_takesWord_25 rfl rfl)) (ok_lf (ok_ICst d_X5_takesWord_26 (by decide) rfl))) (ok_nd (ok_lf (ok_CaV su_X5_must (by decide) rfl d_X5_takesWord_27 q1087 q1089 z93 q6 q1090 ⟨by decide +kernel, by decide +kernel, by decide +kernel⟩ ⟨by decide, by decide⟩ rfl)) (ok_nd (ok_lf (ok_ILdn d_X5_takesWord_30 rfl rfl)) (ok_lf (ok_ZRet d_X5_takesWord_31))))))
noncomputable def S_X5_takesWord : Sem := lockS (inl P_X5_takesWord 20 3) 0
theorem su_X5_takesWord {l : Launch} {G : Gm} : SemU l G yX5_takesWord (wsOf yX5_takesWord cX5_takesWord 3 (some .boolean)) 6 S_X5_takesWord := sem_lock (sem_inl 20 (by decide +kernel) rfl ok_X5_takesWord)
theorem d_X5_readDisputant_0 : decode cX5_readDisputant 0 = .ok (.aload_n 0, 1) := by decide +kernel
theorem d_X5_readDisputant_1 : decode cX5_readDisputant 1 = .ok (.aload_n 0, 1) := by decide +kernel
theorem d_X5_readDisputant_2 : decode cX5_readDisputant 2 = .ok (.getfield 267, 3) := by decide +kernel
theorem d_X5_readDisputant_5 : decode cX5_readDisputant 5 = .ok (.bipush 8, 2) := by decide +kernel
theorem d_X5_readDisputant_7 : decode cX5_readDisputant 7 = .ok (.if_icmp .ge 7, 3) := by decide +kernel
theorem d_X5_readDisputant_10 : decode cX5_readDisputant 10 = .ok (.iconst 1, 1) := by decide +kernel
theorem d_X5_readDisputant_11 : decode cX5_readDisputant 11 = .ok (.goto 4, 3) := by decide +kernel
theorem d_X5_readDisputant_14 : decode cX5_readDisputant 14 = .ok (.iconst 0, 1) := by decide +kernel
theorem d_X5_readDisputant_15 : decode cX5_readDisputant 15 = .ok (.invokevirtual 256, 3) := by decide +kernel
theorem d_X5_readDisputant_18 : decode cX5_readDisputant 18 = .ok (.aload_n 0, 1) := by decide +kernel
theorem d_X5_readDisputant_19 : decode cX5_readDisputant 19 = .ok (.ldc_w 270, 3) := by decide +kernel
theorem d_X5_readDisputant_22 : decode cX5_readDisputant 22 = .ok (.invokevirtual 272, 3) := by decide +kernel
theorem d_X5_readDisputant_25 : decode cX5_readDisputant 25 = .ok (.ifCond .eq 13, 3) := by decide +kernel
theorem d_X5_readDisputant_28 : decode cX5_readDisputant 28 = .ok (.aload_n 0, 1) := by decide +kernel
theorem d_X5_readDisputant_29 : decode cX5_readDisputant 29 = .ok (.iconst 0, 1) := by decide +kernel
theorem d_X5_readDisputant_30 : decode cX5_readDisputant 30 = .ok (.bipush 99, 2) := by decide +kernel
theorem d_X5_readDisputant_32 : decode cX5_readDisputant 32 = .ok (.invokevirtual 275, 3) := by decide +kernel
theorem d_X5_readDisputant_35 : decode cX5_readDisputant 35 = .ok (.goto 5, 3) := by decide +kernel
theorem d_X5_readDisputant_38 : decode cX5_readDisputant 38 = .ok (.bipush 50, 2) := by decide +kernel
theorem d_X5_readDisputant_40 : decode cX5_readDisputant 40 = .ok (.istore_n 2, 1) := by decide +kernel
theorem d_X5_readDisputant_41 : decode cX5_readDisputant 41 = .ok (.aload_n 0, 1) := by decide +kernel
theorem d_X5_readDisputant_42 : decode cX5_readDisputant 42 = .ok (.ldc_w 278, 3) := by decide +kernel
theorem d_X5_readDisputant_45 : decode cX5_readDisputant 45 = .ok (.invokevirtual 272, 3) := by decide +kernel
theorem d_X5_readDisputant_48 : decode cX5_readDisputant 48 = .ok (.ifCond .eq 13, 3) := by decide +kernel
theorem d_X5_readDisputant_51 : decode cX5_readDisputant 51 = .ok (.aload_n 0, 1) := by decide +kernel
theorem d_X5_readDisputant_52 : decode cX5_readDisputant 52 = .ok (.iconst 0, 1) := by decide +kernel
theorem d_X5_readDisputant_53 : decode cX5_readDisputant 53 = .ok (.bipush 99, 2) := by decide +kernel
theorem d_X5_readDisputant_55 : decode cX5_readDisputant 55 = .ok (.invokevirtual 275, 3) := by decide +kernel
theorem d_X5_readDisputant_58 : decode cX5_readDisputant 58 = .ok (.goto 5, 3) := by decide +kernel
theorem d_X5_readDisputant_61 : decode cX5_readDisputant 61 = .ok (.bipush 20, 2) := by decide +kernel
theorem d_X5_readDisputant_63 : decode cX5_readDisputant 63 = .ok (.istore_n 3, 1) := by decide +kernel
theorem d_X5_readDisputant_64 : decode cX5_readDisputant 64 = .ok (.aload_n 0, 1) := by decide +kernel
theorem d_X5_readDisputant_65 : decode cX5_readDisputant 65 = .ok (.iload_n 1, 1) := by decide +kernel
theorem d_X5_readDisputant_66 : decode cX5_readDisputant 66 = .ok (.iload_n 2, 1) := by decide +kernel
theorem d_X5_readDisputant_67 : decode cX5_readDisputant 67 = .ok (.iload_n 3, 1) := by decide +kernel
theorem d_X5_readDisputant_68 : decode cX5_readDisputant 68 = .ok (.aload_n 0, 1) := by decide +kernel
theorem d_X5_readDisputant_69 : decode cX5_readDisputant 69 = .ok (.ldc_w 280, 3) := by decide +kernel
theorem d_X5_readDisputant_72 : decode cX5_readDisputant 72 = .ok (.invokevirtual 272, 3) := by decide +kernel
theorem d_X5_readDisputant_75 : decode cX5_readDisputant 75 = .ok (.ifCond .eq 7, 3) := by decide +kernel
theorem d_X5_readDisputant_78 : decode cX5_readDisputant 78 = .ok (.iconst 1, 1) := by decide +kernel
theorem d_X5_readDisputant_79 : decode cX5_readDisputant 79 = .ok (.goto 4, 3) := by decide +kernel
theorem d_X5_readDisputant_82 : decode cX5_readDisputant 82 = .ok (.iconst 0, 1) := by decide +kernel
theorem d_X5_readDisputant_83 : decode cX5_readDisputant 83 = .ok (.invokevirtual 281, 3) := by decide +kernel
theorem d_X5_readDisputant_86 : decode cX5_readDisputant 86 = .ok (.aload_n 0, 1) := by decide +kernel
theorem d_X5_readDisputant_87 : decode cX5_readDisputant 87 = .ok (.dup, 1) := by decide +kernel
theorem d_X5_readDisputant_88 : decode cX5_readDisputant 88 = .ok (.getfield 267, 3) := by decide +kernel
theorem d_X5_readDisputant_91 : decode cX5_readDisputant 91 = .ok (.iconst 1, 1) := by decide +kernel
theorem d_X5_readDisputant_92 : decode cX5_readDisputant 92 = .ok (.iadd, 1) := by decide +kernel
theorem d_X5_readDisputant_93 : decode cX5_readDisputant 93 = .ok (.putfield 267, 3) := by decide +kernel
theorem d_X5_readDisputant_96 : decode cX5_readDisputant 96 = .ok (.return_, 1) := by decide +kernel
noncomputable def P_X5_readDisputant : Nat → Op := fun pc => nd 52 pc (nd 25 pc (nd 11 pc (nd 5 pc (nd 1 pc (lf 0 pc (oALd 0 1)) (nd 2 pc (lf 1 pc (oALd 0 2)) (lf 2 pc (oGetI 5 17 5)))) (nd 7 pc (lf 5 pc (oCst 8 7)) (nd 10 pc (lf 7 pc (oCpLt 10 14)) (lf 10 pc (oCst 1 11))))) (nd 18 pc (nd 14 pc (lf 11 pc (oGo 15)) (nd 15 pc (lf 14 pc (oCst 0 15)) (lf 15 pc (oCaV 2 5 S_X5_must 18)))) (nd 19 pc (lf 18 pc (oALd 0 19)) (nd 22 pc (lf 19 pc (oLdS 10 22)) (lf 22 pc (oCaV 2 5 S_X5_takesWord 25)))))) (nd 38 pc (nd 30 pc (nd 28 pc (lf 25 pc (oIfEq 38 28)) (nd 29 pc (lf 28 pc (oALd 0 29)) (lf 29 pc (oCst 0 30)))) (nd 32 pc (lf 30 pc (oCst 99 32)) (nd 35 pc (lf 32 pc (oCaV 3 5 S_X5_number 35)) (lf 35 pc (oGo 40))))) (nd 42 pc (nd 40 pc (lf 38 pc (oCst 50 40)) (nd 41 pc (lf 40 pc (oISt 2 41)) (lf 41 pc (oALd 0 42)))) (nd 48 pc (nd 45 pc (lf 42 pc (oLdS 11 45)) (lf 45 pc (oCaV 2 5 S_X5_takesWord 48))) (nd 51 pc (lf 48 pc (oIfEq 61 51)) (lf 51 pc (oALd 0 52))))))) (nd 72 pc (nd 64 pc (nd 58 pc (nd 53 pc (lf 52 pc (oCst 0 53)) (nd 55 pc (lf 53 pc (oCst 99 55)) (lf 55 pc (oCaV 3 5 S_X5_number 58)))) (nd 61 pc (lf 58 pc (oGo 63)) (nd 63 pc (lf 61 pc (oCst 20 63)) (lf 63 pc (oISt 3 64))))) (nd 67 pc (nd 65 pc (lf 64 pc (oALd 0 65)) (nd 66 pc (lf 65 pc (oILd 1 66)) (lf 66 pc (oILd 2 67)))) (nd 68 pc (lf 67 pc (oILd 3 68)) (nd 69 pc (lf 68 pc (oALd 0 69)) (lf 69 pc (oLdS 12 72)))))) (nd 86 pc (nd 79 pc (nd 75 pc (lf 72 pc (oCaV 2 5 S_X5_takesWord 75)) (nd 78 pc (lf 75 pc (oIfEq 82 78)) (lf 78 pc (oCst 1 79)))) (nd 82 pc (lf 79 pc (oGo 83)) (nd 83 pc (lf 82 pc (oCst 0 83)) (lf 83 pc (oCaV 5 5 S_X5_addItem 86))))) (nd 91 pc (nd 87 pc (lf 86 pc (oALd 0 87)) (nd 88 pc (lf 87 pc (oDup 88)) (lf 88 pc (oGetI 5 17 91)))) (nd 93 pc (nd 92 pc (lf 91 pc (oCst 1 92)) (lf 92 pc (oBin (fun x y => x + y) 93))) (nd 96 pc (lf 93 pc (oPutI 5 17 96)) (lf 96 pc (oVRet)))))))
theorem ok_X5_readDisputant {l : Launch} {G : Gm} : ∀ pc, OkU (TXm l G (rmD 7) 4 cX5_readDisputant RX5) (RXm l G (rmD 7) 4 cX5_readDisputant RX5 none) pc (P_X5_readDisputant pc) := fun pc => ok_nd (ok_nd (ok_nd (ok_nd (ok_nd (ok_lf (ok_ALdn d_X5_readDisputant_0 rfl rfl)) (ok_nd (ok_lf (ok_ALdn d_X5_readDisputant_1 rfl rfl)) (ok_lf (ok_GetI (by decide) (by decide) rfl d_X5_readDisputant_2 q720 rfl)))) (ok_nd (ok_lf (ok_BCst d_X5_readDisputant_5 (by decide) rfl)) (ok_nd (ok_lf (ok_CpGe d_X5_readDisputant_7 (by decide) rfl)) (ok_lf (ok_ICst d_X5_readDisputant_10 (by decide) rfl))))) (ok_nd (ok_nd (ok_lf (ok_Go d_X5_readDisputant_11 (by decide))) (ok_nd (ok_lf (ok_ICst d_X5_readDisputant_14 (by decide) rfl)) (ok_lf (ok_CaV su_X5_must (by decide) rfl d_X5_readDisputant_15 q1087 q1089 z93 q6 q1090 ⟨by decide +kernel, by decide +kernel, by decide +kernel⟩ ⟨by decide, by decide⟩ rfl)))) (ok_nd (ok_lf (ok_ALdn d_X5_readDisputant_18 rfl rfl)) (ok_nd (ok_lf (ok_LdSW (tx := "cause") d_X5_readDisputant_19 (List.mem_of_getElem? (i := 20) rfl) rfl)) (ok_lf (ok_CaV su_X5_takesWord (by decide) rfl d_X5_readDisputant_22 q1092 q1094 z94 q6 q1095 ⟨by decide +kernel, by decide +kernel, by decide +kernel⟩ ⟨by decide, by decide⟩ rfl)))))) (ok_nd (ok_nd (ok_nd (ok_lf (ok_IfEq d_X5_readDisputant_25 (by decide) rfl)) (ok_nd (ok_lf (ok_ALdn d_X5_readDisputant_28 rfl rfl)) (ok_lf (ok_ICst d_X5_readDisputant_29 (by decide) rfl)))) (ok_nd (ok_lf (ok_BCst d_X5_readDisputant_30 (by decide) rfl)) (ok_nd (ok_lf (ok_CaV su_X5_number (by decide) rfl d_X5_readDisputant_32 q1096 q1098 z95 q6 q1099 ⟨by decide +kernel, by decide +kernel, by decide +kernel⟩ ⟨by decide, by decide⟩ rfl)) (ok_lf (ok_Go d_X5_readDisputant_35 (by decide)))))) (ok_nd (ok_nd (ok_lf (ok_BCst d_X5_readDisputant_38 (by decide) rfl)) (ok_nd (ok_lf (ok_IStn d_X5_readDisputant_40 rfl rfl)) (ok_lf (ok_ALdn d_X5_readDisputant_41 rfl rfl)))) (ok_nd (ok_nd (ok_lf (ok_LdSW (tx := "temper") d_X5_readDisputant_42 (List.mem_of_getElem? (i := 21) rfl) rfl)) (ok_lf (ok_CaV su_X5_takesWord (by decide) rfl d_X5_readDisputant_45 q1092 q1094 z94 q6 q1095 ⟨by decide +kernel, by decide +kernel, by decide +kernel⟩ ⟨by decide, by decide⟩ rfl))) (ok_nd (ok_lf (ok_IfEq d_X5_readDisputant_48 (by decide) rfl)) (ok_lf (ok_ALdn d_X5_readDisputant_51 rfl rfl))))))) (ok_nd (ok_nd (ok_nd (ok_nd (ok_lf (ok_ICst d_X5_readDisputant_52 (by decide) rfl)) (ok_nd (ok_lf (ok_BCst d_X5_readDisputant_53 (by decide) rfl)) (ok_lf (ok_CaV su_X5_number (by decide) rfl d_X5_readDisputant_55 q1096 q1098 z95 q6 q1099 ⟨by decide +kernel, by decide +kernel, by decide +kernel⟩ ⟨by decide, by decide⟩ rfl)))) (ok_nd (ok_lf (ok_Go d_X5_readDisputant_58 (by decide))) (ok_nd (ok_lf (ok_BCst d_X5_readDisputant_61 (by decide) rfl)) (ok_lf (ok_IStn d_X5_readDisputant_63 rfl rfl))))) (ok_nd (ok_nd (ok_lf (ok_ALdn d_X5_readDisputant_64 rfl rfl)) (ok_nd (ok_lf (ok_ILdn d_X5_readDisputant_65 rfl rfl)) (ok_lf (ok_ILdn d_X5_readDisputant_66 rfl rfl)))) (ok_nd (ok_lf (ok_ILdn d_X5_readDisputant_67 rfl rfl)) (ok_nd (ok_lf (ok_ALdn d_X5_readDisputant_68 rfl rfl)) (ok_lf (ok_LdSW (tx := "silent") d_X5_readDisputant_69 (List.mem_of_getElem? (i := 22) rfl) rfl)))))) (ok_nd (ok_nd (ok_nd (ok_lf (ok_CaV su_X5_takesWord (by decide) rfl d_X5_readDisputant_72 q1092 q1094 z94 q6 q1095 ⟨by decide +kernel, by decide +kernel, by decide +kernel⟩ ⟨by decide, by decide⟩ rfl)) (ok_nd (ok_lf (ok_IfEq d_X5_readDisputant_75 (by decide) rfl)) (ok_lf (ok_ICst d_X5_readDisputant_78 (by decide) rfl)))) (ok_nd (ok_lf (ok_Go d_X5_readDisputant_79 (by decide))) (ok_nd (ok_lf (ok_ICst d_X5_readDisputant_82 (by decide) rfl)) (ok_lf (ok_CaV su_X5_addItem (by decide) rfl d_X5_readDisputant_83 q1102 q1104 z96 q6 q1105 ⟨by decide +kernel, by decide +kernel, by decide +kernel⟩ ⟨by decide, by decide⟩ rfl))))) (ok_nd (ok_nd (ok_lf (ok_ALdn d_X5_readDisputant_86 rfl rfl)) (ok_nd (ok_lf (ok_Dup d_X5_readDisputant_87 rfl)) (ok_lf (ok_GetI (by decide) (by decide) rfl d_X5_readDisputant_88 q720 rfl)))) (ok_nd (ok_nd (ok_lf (ok_ICst d_X5_readDisputant_91 (by decide) rfl)) (ok_lf (ok_iadd d_X5_readDisputant_92 rfl))) (ok_nd (ok_lf (ok_PutI (by decide) (by decide) rfl rfl (by decide +kernel) d_X5_readDisputant_93 q720 rfl)) (ok_lf (ok_VRet d_X5_readDisputant_96)))))))
noncomputable def S_X5_readDisputant : Sem := lockS (inl P_X5_readDisputant 52 4) 0
theorem su_X5_readDisputant {l : Launch} {G : Gm} : SemU l G yX5_readDisputant (wsOf yX5_readDisputant cX5_readDisputant 4 none) 7 S_X5_readDisputant := sem_lock (sem_inl 52 (by decide +kernel) rfl ok_X5_readDisputant)
theorem d_X5_readDispute_0 : decode cX5_readDispute 0 = .ok (.aload_n 0, 1) := by decide +kernel
theorem d_X5_readDispute_1 : decode cX5_readDispute 1 = .ok (.iconst 0, 1) := by decide +kernel
theorem d_X5_readDispute_2 : decode cX5_readDispute 2 = .ok (.iconst 5, 1) := by decide +kernel
theorem d_X5_readDispute_3 : decode cX5_readDispute 3 = .ok (.invokevirtual 275, 3) := by decide +kernel
theorem d_X5_readDispute_6 : decode cX5_readDispute 6 = .ok (.istore_n 1, 1) := by decide +kernel
theorem d_X5_readDispute_7 : decode cX5_readDispute 7 = .ok (.aload_n 0, 1) := by decide +kernel
theorem d_X5_readDispute_8 : decode cX5_readDispute 8 = .ok (.iconst 0, 1) := by decide +kernel
theorem d_X5_readDispute_9 : decode cX5_readDispute 9 = .ok (.bipush 7, 2) := by decide +kernel
theorem d_X5_readDispute_11 : decode cX5_readDispute 11 = .ok (.invokevirtual 275, 3) := by decide +kernel
theorem d_X5_readDispute_14 : decode cX5_readDispute 14 = .ok (.istore_n 2, 1) := by decide +kernel
theorem d_X5_readDispute_15 : decode cX5_readDispute 15 = .ok (.aload_n 0, 1) := by decide +kernel
theorem d_X5_readDispute_16 : decode cX5_readDispute 16 = .ok (.bipush 10, 2) := by decide +kernel
theorem d_X5_readDispute_18 : decode cX5_readDispute 18 = .ok (.iload_n 1, 1) := by decide +kernel
theorem d_X5_readDispute_19 : decode cX5_readDispute 19 = .ok (.bipush 10, 2) := by decide +kernel
theorem d_X5_readDispute_21 : decode cX5_readDispute 21 = .ok (.iload_n 2, 1) := by decide +kernel
theorem d_X5_readDispute_22 : decode cX5_readDispute 22 = .ok (.imul, 1) := by decide +kernel
theorem d_X5_readDispute_23 : decode cX5_readDispute 23 = .ok (.aload_n 0, 1) := by decide +kernel
theorem d_X5_readDispute_24 : decode cX5_readDispute 24 = .ok (.iconst 0, 1) := by decide +kernel
theorem d_X5_readDispute_25 : decode cX5_readDispute 25 = .ok (.bipush 7, 2) := by decide +kernel
theorem d_X5_readDispute_27 : decode cX5_readDispute 27 = .ok (.invokevirtual 275, 3) := by decide +kernel
theorem d_X5_readDispute_30 : decode cX5_readDispute 30 = .ok (.iadd, 1) := by decide +kernel
theorem d_X5_readDispute_31 : decode cX5_readDispute 31 = .ok (.iconst 0, 1) := by decide +kernel
theorem d_X5_readDispute_32 : decode cX5_readDispute 32 = .ok (.invokevirtual 281, 3) := by decide +kernel
theorem d_X5_readDispute_35 : decode cX5_readDispute 35 = .ok (.return_, 1) := by decide +kernel
noncomputable def P_X5_readDispute : Nat → Op := fun pc => nd 18 pc (nd 8 pc (nd 3 pc (nd 1 pc (lf 0 pc (oALd 0 1)) (nd 2 pc (lf 1 pc (oCst 0 2)) (lf 2 pc (oCst 5 3)))) (nd 6 pc (lf 3 pc (oCaV 3 5 S_X5_number 6)) (nd 7 pc (lf 6 pc (oISt 1 7)) (lf 7 pc (oALd 0 8))))) (nd 14 pc (nd 9 pc (lf 8 pc (oCst 0 9)) (nd 11 pc (lf 9 pc (oCst 7 11)) (lf 11 pc (oCaV 3 5 S_X5_number 14)))) (nd 15 pc (lf 14 pc (oISt 2 15)) (nd 16 pc (lf 15 pc (oALd 0 16)) (lf 16 pc (oCst 10 18)))))) (nd 25 pc (nd 22 pc (nd 19 pc (lf 18 pc (oILd 1 19)) (nd 21 pc (lf 19 pc (oCst 10 21)) (lf 21 pc (oILd 2 22)))) (nd 23 pc (lf 22 pc (oBin (fun x y => x * y) 23)) (nd 24 pc (lf 23 pc (oALd 0 24)) (lf 24 pc (oCst 0 25))))) (nd 31 pc (nd 27 pc (lf 25 pc (oCst 7 27)) (nd 30 pc (lf 27 pc (oCaV 3 5 S_X5_number 30)) (lf 30 pc (oBin (fun x y => x + y) 31)))) (nd 32 pc (lf 31 pc (oCst 0 32)) (nd 35 pc (lf 32 pc (oCaV 5 5 S_X5_addItem 35)) (lf 35 pc (oVRet))))))
theorem ok_X5_readDispute {l : Launch} {G : Gm} : ∀ pc, OkU (TXm l G (rmD 5) 3 cX5_readDispute RX5) (RXm l G (rmD 5) 3 cX5_readDispute RX5 none) pc (P_X5_readDispute pc) := fun pc => ok_nd (ok_nd (ok_nd (ok_nd (ok_lf (ok_ALdn d_X5_readDispute_0 rfl rfl)) (ok_nd (ok_lf (ok_ICst d_X5_readDispute_1 (by decide) rfl)) (ok_lf (ok_ICst d_X5_readDispute_2 (by decide) rfl)))) (ok_nd (ok_lf (ok_CaV su_X5_number (by decide) rfl d_X5_readDispute_3 q1096 q1098 z95 q6 q1099 ⟨by decide +kernel, by decide +kernel, by decide +kernel⟩ ⟨by decide, by decide⟩ rfl)) (ok_nd (ok_lf (ok_IStn d_X5_readDispute_6 rfl rfl)) (ok_lf (ok_ALdn d_X5_readDispute_7 rfl rfl))))) (ok_nd (ok_nd (ok_lf (ok_ICst d_X5_readDispute_8 (by decide) rfl)) (ok_nd (ok_lf (ok_BCst d_X5_readDispute_9 (by decide) rfl)) (ok_lf (ok_CaV su_X5_number (by decide) rfl d_X5_readDispute_11 q1096 q1098 z95 q6 q1099 ⟨by decide +kernel, by decide +kernel, by decide +kernel⟩ ⟨by decide, by decide⟩ rfl)))) (ok_nd (ok_lf (ok_IStn d_X5_readDispute_14 rfl rfl)) (ok_nd (ok_lf (ok_ALdn d_X5_readDispute_15 rfl rfl)) (ok_lf (ok_BCst d_X5_readDispute_16 (by decide) rfl)))))) (ok_nd (ok_nd (ok_nd (ok_lf (ok_ILdn d_X5_readDispute_18 rfl rfl)) (ok_nd (ok_lf (ok_BCst d_X5_readDispute_19 (by decide) rfl)) (ok_lf (ok_ILdn d_X5_readDispute_21 rfl rfl)))) (ok_nd (ok_lf (ok_imul d_X5_readDispute_22 rfl)) (ok_nd (ok_lf (ok_ALdn d_X5_readDispute_23 rfl rfl)) (ok_lf (ok_ICst d_X5_readDispute_24 (by decide) rfl))))) (ok_nd (ok_nd (ok_lf (ok_BCst d_X5_readDispute_25 (by decide) rfl)) (ok_nd (ok_lf (ok_CaV su_X5_number (by decide) rfl d_X5_readDispute_27 q1096 q1098 z95 q6 q1099 ⟨by decide +kernel, by decide +kernel, by decide +kernel⟩ ⟨by decide, by decide⟩ rfl)) (ok_lf (ok_iadd d_X5_readDispute_30 rfl)))) (ok_nd (ok_lf (ok_ICst d_X5_readDispute_31 (by decide) rfl)) (ok_nd (ok_lf (ok_CaV su_X5_addItem (by decide) rfl d_X5_readDispute_32 q1102 q1104 z96 q6 q1105 ⟨by decide +kernel, by decide +kernel, by decide +kernel⟩ ⟨by decide, by decide⟩ rfl)) (ok_lf (ok_VRet d_X5_readDispute_35))))))
noncomputable def S_X5_readDispute : Sem := lockS (inl P_X5_readDispute 26 3) 0
theorem su_X5_readDispute {l : Launch} {G : Gm} : SemU l G yX5_readDispute (wsOf yX5_readDispute cX5_readDispute 3 none) 5 S_X5_readDispute := sem_lock (sem_inl 26 (by decide +kernel) rfl ok_X5_readDispute)
theorem d_X5_readItem_0 : decode cX5_readItem 0 = .ok (.iconst (-1), 1) := by decide +kernel
theorem d_X5_readItem_1 : decode cX5_readItem 1 = .ok (.istore_n 1, 1) := by decide +kernel
theorem d_X5_readItem_2 : decode cX5_readItem 2 = .ok (.iconst 0, 1) := by decide +kernel
theorem d_X5_readItem_3 : decode cX5_readItem 3 = .ok (.istore_n 2, 1) := by decide +kernel
theorem d_X5_readItem_4 : decode cX5_readItem 4 = .ok (.iload_n 2, 1) := by decide +kernel
theorem d_X5_readItem_5 : decode cX5_readItem 5 = .ok (.aload_n 0, 1) := by decide +kernel
theorem d_X5_readItem_6 : decode cX5_readItem 6 = .ok (.getfield 41, 3) := by decide +kernel
theorem d_X5_readItem_9 : decode cX5_readItem 9 = .ok (.arraylength, 1) := by decide +kernel
theorem d_X5_readItem_10 : decode cX5_readItem 10 = .ok (.if_icmp .ge 28, 3) := by decide +kernel
theorem d_X5_readItem_13 : decode cX5_readItem 13 = .ok (.aload_n 0, 1) := by decide +kernel
theorem d_X5_readItem_14 : decode cX5_readItem 14 = .ok (.aload_n 0, 1) := by decide +kernel
theorem d_X5_readItem_15 : decode cX5_readItem 15 = .ok (.getfield 41, 3) := by decide +kernel
theorem d_X5_readItem_18 : decode cX5_readItem 18 = .ok (.iload_n 2, 1) := by decide +kernel
theorem d_X5_readItem_19 : decode cX5_readItem 19 = .ok (.aaload, 1) := by decide +kernel
theorem d_X5_readItem_20 : decode cX5_readItem 20 = .ok (.invokevirtual 263, 3) := by decide +kernel
theorem d_X5_readItem_23 : decode cX5_readItem 23 = .ok (.ifCond .eq 7, 3) := by decide +kernel
theorem d_X5_readItem_26 : decode cX5_readItem 26 = .ok (.iload_n 2, 1) := by decide +kernel
theorem d_X5_readItem_27 : decode cX5_readItem 27 = .ok (.goto 4, 3) := by decide +kernel
theorem d_X5_readItem_30 : decode cX5_readItem 30 = .ok (.iload_n 1, 1) := by decide +kernel
theorem d_X5_readItem_31 : decode cX5_readItem 31 = .ok (.istore_n 1, 1) := by decide +kernel
theorem d_X5_readItem_32 : decode cX5_readItem 32 = .ok (.iinc 2 1, 3) := by decide +kernel
theorem d_X5_readItem_35 : decode cX5_readItem 35 = .ok (.goto (-31), 3) := by decide +kernel
theorem d_X5_readItem_38 : decode cX5_readItem 38 = .ok (.iload_n 1, 1) := by decide +kernel
theorem d_X5_readItem_39 : decode cX5_readItem 39 = .ok (.ifCond .lt 11, 3) := by decide +kernel
theorem d_X5_readItem_42 : decode cX5_readItem 42 = .ok (.aload_n 0, 1) := by decide +kernel
theorem d_X5_readItem_43 : decode cX5_readItem 43 = .ok (.iload_n 1, 1) := by decide +kernel
theorem d_X5_readItem_44 : decode cX5_readItem 44 = .ok (.invokevirtual 285, 3) := by decide +kernel
theorem d_X5_readItem_47 : decode cX5_readItem 47 = .ok (.goto 81, 3) := by decide +kernel
theorem d_X5_readItem_50 : decode cX5_readItem 50 = .ok (.aload_n 0, 1) := by decide +kernel
theorem d_X5_readItem_51 : decode cX5_readItem 51 = .ok (.ldc_w 288, 3) := by decide +kernel
theorem d_X5_readItem_54 : decode cX5_readItem 54 = .ok (.invokevirtual 272, 3) := by decide +kernel
theorem d_X5_readItem_57 : decode cX5_readItem 57 = .ok (.ifCond .eq 10, 3) := by decide +kernel
theorem d_X5_readItem_60 : decode cX5_readItem 60 = .ok (.aload_n 0, 1) := by decide +kernel
theorem d_X5_readItem_61 : decode cX5_readItem 61 = .ok (.invokevirtual 290, 3) := by decide +kernel
theorem d_X5_readItem_64 : decode cX5_readItem 64 = .ok (.goto 64, 3) := by decide +kernel
theorem d_X5_readItem_67 : decode cX5_readItem 67 = .ok (.aload_n 0, 1) := by decide +kernel
theorem d_X5_readItem_68 : decode cX5_readItem 68 = .ok (.ldc_w 293, 3) := by decide +kernel
theorem d_X5_readItem_71 : decode cX5_readItem 71 = .ok (.invokevirtual 272, 3) := by decide +kernel
theorem d_X5_readItem_74 : decode cX5_readItem 74 = .ok (.ifCond .eq 21, 3) := by decide +kernel
theorem d_X5_readItem_77 : decode cX5_readItem 77 = .ok (.aload_n 0, 1) := by decide +kernel
theorem d_X5_readItem_78 : decode cX5_readItem 78 = .ok (.bipush 11, 2) := by decide +kernel
theorem d_X5_readItem_80 : decode cX5_readItem 80 = .ok (.aload_n 0, 1) := by decide +kernel
theorem d_X5_readItem_81 : decode cX5_readItem 81 = .ok (.iconst 1, 1) := by decide +kernel
theorem d_X5_readItem_82 : decode cX5_readItem 82 = .ok (.bipush 60, 2) := by decide +kernel
theorem d_X5_readItem_84 : decode cX5_readItem 84 = .ok (.invokevirtual 275, 3) := by decide +kernel
theorem d_X5_readItem_87 : decode cX5_readItem 87 = .ok (.iconst 0, 1) := by decide +kernel
theorem d_X5_readItem_88 : decode cX5_readItem 88 = .ok (.iconst 0, 1) := by decide +kernel
theorem d_X5_readItem_89 : decode cX5_readItem 89 = .ok (.invokevirtual 281, 3) := by decide +kernel
theorem d_X5_readItem_92 : decode cX5_readItem 92 = .ok (.goto 36, 3) := by decide +kernel
theorem d_X5_readItem_95 : decode cX5_readItem 95 = .ok (.aload_n 0, 1) := by decide +kernel
theorem d_X5_readItem_96 : decode cX5_readItem 96 = .ok (.ldc_w 295, 3) := by decide +kernel
theorem d_X5_readItem_99 : decode cX5_readItem 99 = .ok (.invokevirtual 272, 3) := by decide +kernel
theorem d_X5_readItem_102 : decode cX5_readItem 102 = .ok (.ifCond .eq 21, 3) := by decide +kernel
theorem d_X5_readItem_105 : decode cX5_readItem 105 = .ok (.aload_n 0, 1) := by decide +kernel
theorem d_X5_readItem_106 : decode cX5_readItem 106 = .ok (.bipush 12, 2) := by decide +kernel
theorem d_X5_readItem_108 : decode cX5_readItem 108 = .ok (.aload_n 0, 1) := by decide +kernel
theorem d_X5_readItem_109 : decode cX5_readItem 109 = .ok (.iconst 0, 1) := by decide +kernel
theorem d_X5_readItem_110 : decode cX5_readItem 110 = .ok (.bipush 9, 2) := by decide +kernel
theorem d_X5_readItem_112 : decode cX5_readItem 112 = .ok (.invokevirtual 275, 3) := by decide +kernel
theorem d_X5_readItem_115 : decode cX5_readItem 115 = .ok (.iconst 0, 1) := by decide +kernel
theorem d_X5_readItem_116 : decode cX5_readItem 116 = .ok (.iconst 0, 1) := by decide +kernel
theorem d_X5_readItem_117 : decode cX5_readItem 117 = .ok (.invokevirtual 281, 3) := by decide +kernel
theorem d_X5_readItem_120 : decode cX5_readItem 120 = .ok (.goto 8, 3) := by decide +kernel
theorem d_X5_readItem_123 : decode cX5_readItem 123 = .ok (.aload_n 0, 1) := by decide +kernel
theorem d_X5_readItem_124 : decode cX5_readItem 124 = .ok (.iconst 0, 1) := by decide +kernel
theorem d_X5_readItem_125 : decode cX5_readItem 125 = .ok (.invokevirtual 256, 3) := by decide +kernel
theorem d_X5_readItem_128 : decode cX5_readItem 128 = .ok (.return_, 1) := by decide +kernel
noncomputable def P_X5_readItem : Nat → Op := fun pc => nd 61 pc (nd 26 pc (nd 10 pc (nd 4 pc (nd 2 pc (nd 1 pc (lf 0 pc (oCst (-1) 1)) (lf 1 pc (oISt 1 2))) (nd 3 pc (lf 2 pc (oCst 0 3)) (lf 3 pc (oISt 2 4)))) (nd 6 pc (nd 5 pc (lf 4 pc (lockO (oILd 2 5) 0)) (lf 5 pc (oALd 0 6))) (nd 9 pc (lf 6 pc (oGetR 5 14 9)) (lf 9 pc (oLenR 9 10))))) (nd 18 pc (nd 14 pc (nd 13 pc (lf 10 pc (oCpLt 13 38)) (lf 13 pc (oALd 0 14))) (nd 15 pc (lf 14 pc (oALd 0 15)) (lf 15 pc (oGetR 5 14 18)))) (nd 20 pc (nd 19 pc (lf 18 pc (oILd 2 19)) (lf 19 pc (oAAL 9 20))) (nd 23 pc (lf 20 pc (oCaV 2 5 S_X5_isWord 23)) (lf 23 pc (oIfEq 30 26)))))) (nd 42 pc (nd 32 pc (nd 30 pc (nd 27 pc (lf 26 pc (oILd 2 27)) (lf 27 pc (oGo 31))) (nd 31 pc (lf 30 pc (oILd 1 31)) (lf 31 pc (oISt 1 32)))) (nd 38 pc (nd 35 pc (lf 32 pc (oInc 2 1 35)) (lf 35 pc (oGo 4))) (nd 39 pc (lf 38 pc (oILd 1 39)) (lf 39 pc (oIfLt 50 42))))) (nd 50 pc (nd 44 pc (nd 43 pc (lf 42 pc (oALd 0 43)) (lf 43 pc (oILd 1 44))) (nd 47 pc (lf 44 pc (oCaV 2 5 S_X5_readDisputant 47)) (lf 47 pc (oGo 128)))) (nd 54 pc (nd 51 pc (lf 50 pc (oALd 0 51)) (lf 51 pc (oLdS 7 54))) (nd 57 pc (lf 54 pc (oCaV 2 5 S_X5_takesWord 57)) (nd 60 pc (lf 57 pc (oIfEq 67 60)) (lf 60 pc (oALd 0 61)))))))) (nd 96 pc (nd 80 pc (nd 71 pc (nd 67 pc (nd 64 pc (lf 61 pc (oCaV 1 5 S_X5_readDispute 64)) (lf 64 pc (oGo 128))) (nd 68 pc (lf 67 pc (oALd 0 68)) (lf 68 pc (oLdS 8 71)))) (nd 77 pc (nd 74 pc (lf 71 pc (oCaV 2 5 S_X5_takesWord 74)) (lf 74 pc (oIfEq 95 77))) (nd 78 pc (lf 77 pc (oALd 0 78)) (lf 78 pc (oCst 11 80))))) (nd 87 pc (nd 82 pc (nd 81 pc (lf 80 pc (oALd 0 81)) (lf 81 pc (oCst 1 82))) (nd 84 pc (lf 82 pc (oCst 60 84)) (lf 84 pc (oCaV 3 5 S_X5_number 87)))) (nd 89 pc (nd 88 pc (lf 87 pc (oCst 0 88)) (lf 88 pc (oCst 0 89))) (nd 92 pc (lf 89 pc (oCaV 5 5 S_X5_addItem 92)) (nd 95 pc (lf 92 pc (oGo 128)) (lf 95 pc (oALd 0 96))))))) (nd 112 pc (nd 106 pc (nd 102 pc (nd 99 pc (lf 96 pc (oLdS 9 99)) (lf 99 pc (oCaV 2 5 S_X5_takesWord 102))) (nd 105 pc (lf 102 pc (oIfEq 123 105)) (lf 105 pc (oALd 0 106)))) (nd 109 pc (nd 108 pc (lf 106 pc (oCst 12 108)) (lf 108 pc (oALd 0 109))) (nd 110 pc (lf 109 pc (oCst 0 110)) (lf 110 pc (oCst 9 112))))) (nd 120 pc (nd 116 pc (nd 115 pc (lf 112 pc (oCaV 3 5 S_X5_number 115)) (lf 115 pc (oCst 0 116))) (nd 117 pc (lf 116 pc (oCst 0 117)) (lf 117 pc (oCaV 5 5 S_X5_addItem 120)))) (nd 124 pc (nd 123 pc (lf 120 pc (oGo 128)) (lf 123 pc (oALd 0 124))) (nd 125 pc (lf 124 pc (oCst 0 125)) (nd 128 pc (lf 125 pc (oCaV 2 5 S_X5_must 128)) (lf 128 pc (oVRet))))))))
theorem ok_X5_readItem {l : Launch} {G : Gm} : ∀ pc, OkU (TXm l G (rmD 8) 3 cX5_readItem RX5) (RXm l G (rmD 8) 3 cX5_readItem RX5 none) pc (P_X5_readItem pc) := fun pc => ok_nd (ok_nd (ok_nd (ok_nd (ok_nd (ok_nd (ok_lf (ok_ICst d_X5_readItem_0 (by decide) rfl)) (ok_lf (ok_IStn d_X5_readItem_1 rfl rfl))) (ok_nd (ok_lf (ok_ICst d_X5_readItem_2 (by decide) rfl)) (ok_lf (ok_IStn d_X5_readItem_3 rfl rfl)))) (ok_nd (ok_nd (ok_lf (ok_lk (ok_ILdn d_X5_readItem_4 rfl rfl))) (ok_lf (ok_ALdn d_X5_readItem_5 rfl rfl))) (ok_nd (ok_lf (ok_GetR (by decide) (by decide) rfl d_X5_readItem_6 q717 rfl)) (ok_lf (ok_LenR (by decide) (by decide) d_X5_readItem_9 rfl))))) (ok_nd (ok_nd (ok_nd (ok_lf (ok_CpGe d_X5_readItem_10 (by decide) rfl)) (ok_lf (ok_ALdn d_X5_readItem_13 rfl rfl))) (ok_nd (ok_lf (ok_ALdn d_X5_readItem_14 rfl rfl)) (ok_lf (ok_GetR (by decide) (by decide) rfl d_X5_readItem_15 q717 rfl)))) (ok_nd (ok_nd (ok_lf (ok_ILdn d_X5_readItem_18 rfl rfl)) (ok_lf (ok_AAL (by decide) (by decide) d_X5_readItem_19 rfl))) (ok_nd (ok_lf (ok_CaV su_X5_isWord (by decide) rfl d_X5_readItem_20 q1077 q1079 z91 q6 q1080 ⟨by decide +kernel, by decide +kernel, by decide +kernel⟩ ⟨by decide, by decide⟩ rfl)) (ok_lf (ok_IfEq d_X5_readItem_23 (by decide) rfl)))))) (ok_nd (ok_nd (ok_nd (ok_nd (ok_lf (ok_ILdn d_X5_readItem_26 rfl rfl)) (ok_lf (ok_Go d_X5_readItem_27 (by decide)))) (ok_nd (ok_lf (ok_ILdn d_X5_readItem_30 rfl rfl)) (ok_lf (ok_IStn d_X5_readItem_31 rfl rfl)))) (ok_nd (ok_nd (ok_lf (ok_Inc d_X5_readItem_32 (by decide) rfl)) (ok_lf (ok_Go d_X5_readItem_35 (by decide)))) (ok_nd (ok_lf (ok_ILdn d_X5_readItem_38 rfl rfl)) (ok_lf (ok_IfLt d_X5_readItem_39 (by decide) rfl))))) (ok_nd (ok_nd (ok_nd (ok_lf (ok_ALdn d_X5_readItem_42 rfl rfl)) (ok_lf (ok_ILdn d_X5_readItem_43 rfl rfl))) (ok_nd (ok_lf (ok_CaV su_X5_readDisputant (by decide) rfl d_X5_readItem_44 q1083 q1085 z92 q6 q1086 ⟨by decide +kernel, by decide +kernel, by decide +kernel⟩ ⟨by decide, by decide⟩ rfl)) (ok_lf (ok_Go d_X5_readItem_47 (by decide))))) (ok_nd (ok_nd (ok_lf (ok_ALdn d_X5_readItem_50 rfl rfl)) (ok_lf (ok_LdSW (tx := "dispute") d_X5_readItem_51 (List.mem_of_getElem? (i := 23) rfl) rfl))) (ok_nd (ok_lf (ok_CaV su_X5_takesWord (by decide) rfl d_X5_readItem_54 q1092 q1094 z94 q6 q1095 ⟨by decide +kernel, by decide +kernel, by decide +kernel⟩ ⟨by decide, by decide⟩ rfl)) (ok_nd (ok_lf (ok_IfEq d_X5_readItem_57 (by decide) rfl)) (ok_lf (ok_ALdn d_X5_readItem_60 rfl rfl)))))))) (ok_nd (ok_nd (ok_nd (ok_nd (ok_nd (ok_lf (ok_CaV su_X5_readDispute (by decide) rfl d_X5_readItem_61 q1107 q1109 z97 q6 q1110 ⟨by decide +kernel, by decide +kernel, by decide +kernel⟩ ⟨by decide, by decide⟩ rfl)) (ok_lf (ok_Go d_X5_readItem_64 (by decide)))) (ok_nd (ok_lf (ok_ALdn d_X5_readItem_67 rfl rfl)) (ok_lf (ok_LdSW (tx := "height") d_X5_readItem_68 (List.mem_of_getElem? (i := 24) rfl) rfl)))) (ok_nd (ok_nd (ok_lf (ok_CaV su_X5_takesWord (by decide) rfl d_X5_readItem_71 q1092 q1094 z94 q6 q1095 ⟨by decide +kernel, by decide +kernel, by decide +kernel⟩ ⟨by decide, by decide⟩ rfl)) (ok_lf (ok_IfEq d_X5_readItem_74 (by decide) rfl))) (ok_nd (ok_lf (ok_ALdn d_X5_readItem_77 rfl rfl)) (ok_lf (ok_BCst d_X5_readItem_78 (by decide) rfl))))) (ok_nd (ok_nd (ok_nd (ok_lf (ok_ALdn d_X5_readItem_80 rfl rfl)) (ok_lf (ok_ICst d_X5_readItem_81 (by decide) rfl))) (ok_nd (ok_lf (ok_BCst d_X5_readItem_82 (by decide) rfl)) (ok_lf (ok_CaV su_X5_number (by decide) rfl d_X5_readItem_84 q1096 q1098 z95 q6 q1099 ⟨by decide +kernel, by decide +kernel, by decide +kernel⟩ ⟨by decide, by decide⟩ rfl)))) (ok_nd (ok_nd (ok_lf (ok_ICst d_X5_readItem_87 (by decide) rfl)) (ok_lf (ok_ICst d_X5_readItem_88 (by decide) rfl))) (ok_nd (ok_lf (ok_CaV su_X5_addItem (by decide) rfl d_X5_readItem_89 q1102 q1104 z96 q6 q1105 ⟨by decide +kernel, by decide +kernel, by decide +kernel⟩ ⟨by decide, by decide⟩ rfl)) (ok_nd (ok_lf (ok_Go d_X5_readItem_92 (by decide))) (ok_lf (ok_ALdn d_X5_readItem_95 rfl rfl))))))) (ok_nd (ok_nd (ok_nd (ok_nd (ok_lf (ok_LdSW (tx := "spread") d_X5_readItem_96 (List.mem_of_getElem? (i := 25) rfl) rfl)) (ok_lf (ok_CaV su_X5_takesWord (by decide) rfl d_X5_readItem_99 q1092 q1094 z94 q6 q1095 ⟨by decide +kernel, by decide +kernel, by decide +kernel⟩ ⟨by decide, by decide⟩ rfl))) (ok_nd (ok_lf (ok_IfEq d_X5_readItem_102 (by decide) rfl)) (ok_lf (ok_ALdn d_X5_readItem_105 rfl rfl)))) (ok_nd (ok_nd (ok_lf (ok_BCst d_X5_readItem_106 (by decide) rfl)) (ok_lf (ok_ALdn d_X5_readItem_108 rfl rfl))) (ok_nd (ok_lf (ok_ICst d_X5_readItem_109 (by decide) rfl)) (ok_lf (ok_BCst d_X5_readItem_110 (by decide) rfl))))) (ok_nd (ok_nd (ok_nd (ok_lf (ok_CaV su_X5_number (by decide) rfl d_X5_readItem_112 q1096 q1098 z95 q6 q1099 ⟨by decide +kernel, by decide +kernel, by decide +kernel⟩ ⟨by decide, by decide⟩ rfl)) (ok_lf (ok_ICst d_X5_readItem_115 (by decide) rfl))) (ok_nd (ok_lf (ok_ICst d_X5_readItem_116 (by decide) rfl)) (ok_lf (ok_CaV su_X5_addItem (by decide) rfl d_X5_readItem_117 q1102 q1104 z96 q6 q1105 ⟨by decide +kernel, by decide +kernel, by decide +kernel⟩ ⟨by decide, by decide⟩ rfl)))) (ok_nd (ok_nd (ok_lf (ok_Go d_X5_readItem_120 (by decide))) (ok_lf (ok_ALdn d_X5_readItem_123 rfl rfl))) (ok_nd (ok_lf (ok_ICst d_X5_readItem_124 (by decide) rfl)) (ok_nd (ok_lf (ok_CaV su_X5_must (by decide) rfl d_X5_readItem_125 q1087 q1089 z93 q6 q1090 ⟨by decide +kernel, by decide +kernel, by decide +kernel⟩ ⟨by decide, by decide⟩ rfl)) (ok_lf (ok_VRet d_X5_readItem_128))))))))
noncomputable def S_X5_readItem : Sem := lockS (inl P_X5_readItem 30000 3) 0
theorem su_X5_readItem {l : Launch} {G : Gm} : SemU l G yX5_readItem (wsOf yX5_readItem cX5_readItem 3 none) 8 S_X5_readItem := sem_lock (sem_inl 30000 (by decide +kernel) rfl ok_X5_readItem)
theorem d_X5_isToldSo_0 : decode cX5_isToldSo 0 = .ok (.aload_n 0, 1) := by decide +kernel
theorem d_X5_isToldSo_1 : decode cX5_isToldSo 1 = .ok (.getfield 45, 3) := by decide +kernel
theorem d_X5_isToldSo_4 : decode cX5_isToldSo 4 = .ok (.iload_n 1, 1) := by decide +kernel
theorem d_X5_isToldSo_5 : decode cX5_isToldSo 5 = .ok (.iconst 1, 1) := by decide +kernel
theorem d_X5_isToldSo_6 : decode cX5_isToldSo 6 = .ok (.iadd, 1) := by decide +kernel
theorem d_X5_isToldSo_7 : decode cX5_isToldSo 7 = .ok (.iaload, 1) := by decide +kernel
theorem d_X5_isToldSo_8 : decode cX5_isToldSo 8 = .ok (.istore_n 2, 1) := by decide +kernel
theorem d_X5_isToldSo_9 : decode cX5_isToldSo 9 = .ok (.aload_n 0, 1) := by decide +kernel
theorem d_X5_isToldSo_10 : decode cX5_isToldSo 10 = .ok (.getfield 45, 3) := by decide +kernel
theorem d_X5_isToldSo_13 : decode cX5_isToldSo 13 = .ok (.iload_n 1, 1) := by decide +kernel
theorem d_X5_isToldSo_14 : decode cX5_isToldSo 14 = .ok (.iconst 2, 1) := by decide +kernel
theorem d_X5_isToldSo_15 : decode cX5_isToldSo 15 = .ok (.iadd, 1) := by decide +kernel
theorem d_X5_isToldSo_16 : decode cX5_isToldSo 16 = .ok (.iaload, 1) := by decide +kernel
theorem d_X5_isToldSo_17 : decode cX5_isToldSo 17 = .ok (.istore_n 3, 1) := by decide +kernel
theorem d_X5_isToldSo_18 : decode cX5_isToldSo 18 = .ok (.aload_n 0, 1) := by decide +kernel
theorem d_X5_isToldSo_19 : decode cX5_isToldSo 19 = .ok (.getfield 45, 3) := by decide +kernel
theorem d_X5_isToldSo_22 : decode cX5_isToldSo 22 = .ok (.iload_n 1, 1) := by decide +kernel
theorem d_X5_isToldSo_23 : decode cX5_isToldSo 23 = .ok (.iaload, 1) := by decide +kernel
theorem d_X5_isToldSo_24 : decode cX5_isToldSo 24 = .ok (.tableswitch 61 10 12 #[28, 41, 51], 28) := by decide +kernel
theorem d_X5_isToldSo_52 : decode cX5_isToldSo 52 = .ok (.aload_n 0, 1) := by decide +kernel
theorem d_X5_isToldSo_53 : decode cX5_isToldSo 53 = .ok (.getfield 9, 3) := by decide +kernel
theorem d_X5_isToldSo_56 : decode cX5_isToldSo 56 = .ok (.bipush 6, 2) := by decide +kernel
theorem d_X5_isToldSo_58 : decode cX5_isToldSo 58 = .ok (.iload_n 2, 1) := by decide +kernel
theorem d_X5_isToldSo_59 : decode cX5_isToldSo 59 = .ok (.iadd, 1) := by decide +kernel
theorem d_X5_isToldSo_60 : decode cX5_isToldSo 60 = .ok (.iload_n 3, 1) := by decide +kernel
theorem d_X5_isToldSo_61 : decode cX5_isToldSo 61 = .ok (.iastore, 1) := by decide +kernel
theorem d_X5_isToldSo_62 : decode cX5_isToldSo 62 = .ok (.goto 67, 3) := by decide +kernel
theorem d_X5_isToldSo_65 : decode cX5_isToldSo 65 = .ok (.aload_n 0, 1) := by decide +kernel
theorem d_X5_isToldSo_66 : decode cX5_isToldSo 66 = .ok (.getfield 9, 3) := by decide +kernel
theorem d_X5_isToldSo_69 : decode cX5_isToldSo 69 = .ok (.iconst 3, 1) := by decide +kernel
theorem d_X5_isToldSo_70 : decode cX5_isToldSo 70 = .ok (.iload_n 2, 1) := by decide +kernel
theorem d_X5_isToldSo_71 : decode cX5_isToldSo 71 = .ok (.iastore, 1) := by decide +kernel
theorem d_X5_isToldSo_72 : decode cX5_isToldSo 72 = .ok (.goto 57, 3) := by decide +kernel
theorem d_X5_isToldSo_75 : decode cX5_isToldSo 75 = .ok (.aload_n 0, 1) := by decide +kernel
theorem d_X5_isToldSo_76 : decode cX5_isToldSo 76 = .ok (.getfield 9, 3) := by decide +kernel
theorem d_X5_isToldSo_79 : decode cX5_isToldSo 79 = .ok (.iconst 4, 1) := by decide +kernel
theorem d_X5_isToldSo_80 : decode cX5_isToldSo 80 = .ok (.iload_n 2, 1) := by decide +kernel
theorem d_X5_isToldSo_81 : decode cX5_isToldSo 81 = .ok (.iastore, 1) := by decide +kernel
theorem d_X5_isToldSo_82 : decode cX5_isToldSo 82 = .ok (.goto 47, 3) := by decide +kernel
theorem d_X5_isToldSo_85 : decode cX5_isToldSo 85 = .ok (.aload_n 0, 1) := by decide +kernel
theorem d_X5_isToldSo_86 : decode cX5_isToldSo 86 = .ok (.aload_n 0, 1) := by decide +kernel
theorem d_X5_isToldSo_87 : decode cX5_isToldSo 87 = .ok (.getfield 45, 3) := by decide +kernel
theorem d_X5_isToldSo_90 : decode cX5_isToldSo 90 = .ok (.iload_n 1, 1) := by decide +kernel
theorem d_X5_isToldSo_91 : decode cX5_isToldSo 91 = .ok (.iaload, 1) := by decide +kernel
theorem d_X5_isToldSo_92 : decode cX5_isToldSo 92 = .ok (.iload_n 2, 1) := by decide +kernel
theorem d_X5_isToldSo_93 : decode cX5_isToldSo 93 = .ok (.invokevirtual 92, 3) := by decide +kernel
theorem d_X5_isToldSo_96 : decode cX5_isToldSo 96 = .ok (.istore 4, 2) := by decide +kernel
theorem d_X5_isToldSo_98 : decode cX5_isToldSo 98 = .ok (.aload_n 0, 1) := by decide +kernel
theorem d_X5_isToldSo_99 : decode cX5_isToldSo 99 = .ok (.getfield 9, 3) := by decide +kernel
theorem d_X5_isToldSo_102 : decode cX5_isToldSo 102 = .ok (.iload 4, 2) := by decide +kernel
theorem d_X5_isToldSo_104 : decode cX5_isToldSo 104 = .ok (.iconst 2, 1) := by decide +kernel
theorem d_X5_isToldSo_105 : decode cX5_isToldSo 105 = .ok (.invokestatic 85, 3) := by decide +kernel
theorem d_X5_isToldSo_108 : decode cX5_isToldSo 108 = .ok (.iload_n 3, 1) := by decide +kernel
theorem d_X5_isToldSo_109 : decode cX5_isToldSo 109 = .ok (.iastore, 1) := by decide +kernel
theorem d_X5_isToldSo_110 : decode cX5_isToldSo 110 = .ok (.aload_n 0, 1) := by decide +kernel
theorem d_X5_isToldSo_111 : decode cX5_isToldSo 111 = .ok (.getfield 9, 3) := by decide +kernel
theorem d_X5_isToldSo_114 : decode cX5_isToldSo 114 = .ok (.iload 4, 2) := by decide +kernel
theorem d_X5_isToldSo_116 : decode cX5_isToldSo 116 = .ok (.iconst 5, 1) := by decide +kernel
theorem d_X5_isToldSo_117 : decode cX5_isToldSo 117 = .ok (.invokestatic 85, 3) := by decide +kernel
theorem d_X5_isToldSo_120 : decode cX5_isToldSo 120 = .ok (.aload_n 0, 1) := by decide +kernel
theorem d_X5_isToldSo_121 : decode cX5_isToldSo 121 = .ok (.getfield 45, 3) := by decide +kernel
theorem d_X5_isToldSo_124 : decode cX5_isToldSo 124 = .ok (.iload_n 1, 1) := by decide +kernel
theorem d_X5_isToldSo_125 : decode cX5_isToldSo 125 = .ok (.iconst 3, 1) := by decide +kernel
theorem d_X5_isToldSo_126 : decode cX5_isToldSo 126 = .ok (.iadd, 1) := by decide +kernel
theorem d_X5_isToldSo_127 : decode cX5_isToldSo 127 = .ok (.iaload, 1) := by decide +kernel
theorem d_X5_isToldSo_128 : decode cX5_isToldSo 128 = .ok (.iastore, 1) := by decide +kernel
theorem d_X5_isToldSo_129 : decode cX5_isToldSo 129 = .ok (.return_, 1) := by decide +kernel
noncomputable def P_X5_isToldSo : Nat → Op := fun pc => nd 75 pc (nd 22 pc (nd 10 pc (nd 6 pc (nd 4 pc (nd 1 pc (lf 0 pc (oALd 0 1)) (lf 1 pc (oGetR 5 15 4))) (nd 5 pc (lf 4 pc (oILd 1 5)) (lf 5 pc (oCst 1 6)))) (nd 8 pc (nd 7 pc (lf 6 pc (oBin (fun x y => x + y) 7)) (lf 7 pc (oIAL 8))) (nd 9 pc (lf 8 pc (oISt 2 9)) (lf 9 pc (oALd 0 10))))) (nd 16 pc (nd 14 pc (nd 13 pc (lf 10 pc (oGetR 5 15 13)) (lf 13 pc (oILd 1 14))) (nd 15 pc (lf 14 pc (oCst 2 15)) (lf 15 pc (oBin (fun x y => x + y) 16)))) (nd 18 pc (nd 17 pc (lf 16 pc (oIAL 17)) (lf 17 pc (oISt 3 18))) (nd 19 pc (lf 18 pc (oALd 0 19)) (lf 19 pc (oGetR 5 15 22)))))) (nd 60 pc (nd 53 pc (nd 24 pc (nd 23 pc (lf 22 pc (oILd 1 23)) (lf 23 pc (oIAL 24))) (nd 52 pc (lf 24 pc (oSw [(10, 52), (11, 65), (12, 75)] 85)) (lf 52 pc (oALd 0 53)))) (nd 58 pc (nd 56 pc (lf 53 pc (oGetR 5 0 56)) (lf 56 pc (oCst 6 58))) (nd 59 pc (lf 58 pc (oILd 2 59)) (lf 59 pc (oBin (fun x y => x + y) 60))))) (nd 66 pc (nd 62 pc (nd 61 pc (lf 60 pc (oILd 3 61)) (lf 61 pc (oIAS 62))) (nd 65 pc (lf 62 pc (oGo 129)) (lf 65 pc (oALd 0 66)))) (nd 70 pc (nd 69 pc (lf 66 pc (oGetR 5 0 69)) (lf 69 pc (oCst 3 70))) (nd 71 pc (lf 70 pc (oILd 2 71)) (nd 72 pc (lf 71 pc (oIAS 72)) (lf 72 pc (oGo 129)))))))) (nd 104 pc (nd 87 pc (nd 81 pc (nd 79 pc (nd 76 pc (lf 75 pc (oALd 0 76)) (lf 76 pc (oGetR 5 0 79))) (nd 80 pc (lf 79 pc (oCst 4 80)) (lf 80 pc (oILd 2 81)))) (nd 85 pc (nd 82 pc (lf 81 pc (oIAS 82)) (lf 82 pc (oGo 129))) (nd 86 pc (lf 85 pc (oALd 0 86)) (lf 86 pc (oALd 0 87))))) (nd 93 pc (nd 91 pc (nd 90 pc (lf 87 pc (oGetR 5 15 90)) (lf 90 pc (oILd 1 91))) (nd 92 pc (lf 91 pc (oIAL 92)) (lf 92 pc (oILd 2 93)))) (nd 98 pc (nd 96 pc (lf 93 pc (oCaV 3 5 S_X5_comes 96)) (lf 96 pc (oISt 4 98))) (nd 99 pc (lf 98 pc (oALd 0 99)) (nd 102 pc (lf 99 pc (oGetR 5 0 102)) (lf 102 pc (oILd 4 104))))))) (nd 117 pc (nd 110 pc (nd 108 pc (nd 105 pc (lf 104 pc (oCst 2 105)) (lf 105 pc (oCaS 2 S_X5_disputantAt 108))) (nd 109 pc (lf 108 pc (oILd 3 109)) (lf 109 pc (oIAS 110)))) (nd 114 pc (nd 111 pc (lf 110 pc (oALd 0 111)) (lf 111 pc (oGetR 5 0 114))) (nd 116 pc (lf 114 pc (oILd 4 116)) (lf 116 pc (oCst 5 117))))) (nd 125 pc (nd 121 pc (nd 120 pc (lf 117 pc (oCaS 2 S_X5_disputantAt 120)) (lf 120 pc (oALd 0 121))) (nd 124 pc (lf 121 pc (oGetR 5 15 124)) (lf 124 pc (oILd 1 125)))) (nd 127 pc (nd 126 pc (lf 125 pc (oCst 3 126)) (lf 126 pc (oBin (fun x y => x + y) 127))) (nd 128 pc (lf 127 pc (oIAL 128)) (nd 129 pc (lf 128 pc (oIAS 129)) (lf 129 pc (oVRet))))))))
theorem ok_X5_isToldSo {l : Launch} {G : Gm} : ∀ pc, OkU (TXm l G (rmD 3) 5 cX5_isToldSo RX5) (RXm l G (rmD 3) 5 cX5_isToldSo RX5 none) pc (P_X5_isToldSo pc) := fun pc => ok_nd (ok_nd (ok_nd (ok_nd (ok_nd (ok_nd (ok_lf (ok_ALdn d_X5_isToldSo_0 rfl rfl)) (ok_lf (ok_GetR (by decide) (by decide) rfl d_X5_isToldSo_1 q718 rfl))) (ok_nd (ok_lf (ok_ILdn d_X5_isToldSo_4 rfl rfl)) (ok_lf (ok_ICst d_X5_isToldSo_5 (by decide) rfl)))) (ok_nd (ok_nd (ok_lf (ok_iadd d_X5_isToldSo_6 rfl)) (ok_lf (ok_IAL d_X5_isToldSo_7 rfl))) (ok_nd (ok_lf (ok_IStn d_X5_isToldSo_8 rfl rfl)) (ok_lf (ok_ALdn d_X5_isToldSo_9 rfl rfl))))) (ok_nd (ok_nd (ok_nd (ok_lf (ok_GetR (by decide) (by decide) rfl d_X5_isToldSo_10 q718 rfl)) (ok_lf (ok_ILdn d_X5_isToldSo_13 rfl rfl))) (ok_nd (ok_lf (ok_ICst d_X5_isToldSo_14 (by decide) rfl)) (ok_lf (ok_iadd d_X5_isToldSo_15 rfl)))) (ok_nd (ok_nd (ok_lf (ok_IAL d_X5_isToldSo_16 rfl)) (ok_lf (ok_IStn d_X5_isToldSo_17 rfl rfl))) (ok_nd (ok_lf (ok_ALdn d_X5_isToldSo_18 rfl rfl)) (ok_lf (ok_GetR (by decide) (by decide) rfl d_X5_isToldSo_19 q718 rfl)))))) (ok_nd (ok_nd (ok_nd (ok_nd (ok_lf (ok_ILdn d_X5_isToldSo_22 rfl rfl)) (ok_lf (ok_IAL d_X5_isToldSo_23 rfl))) (ok_nd (ok_lf (ok_Tab d_X5_isToldSo_24 (by decide) (by decide) (by decide) (by decide))) (ok_lf (ok_ALdn d_X5_isToldSo_52 rfl rfl)))) (ok_nd (ok_nd (ok_lf (ok_GetR (by decide) (by decide) rfl d_X5_isToldSo_53 q703 rfl)) (ok_lf (ok_BCst d_X5_isToldSo_56 (by decide) rfl))) (ok_nd (ok_lf (ok_ILdn d_X5_isToldSo_58 rfl rfl)) (ok_lf (ok_iadd d_X5_isToldSo_59 rfl))))) (ok_nd (ok_nd (ok_nd (ok_lf (ok_ILdn d_X5_isToldSo_60 rfl rfl)) (ok_lf (ok_IAS d_X5_isToldSo_61 rfl))) (ok_nd (ok_lf (ok_Go d_X5_isToldSo_62 (by decide))) (ok_lf (ok_ALdn d_X5_isToldSo_65 rfl rfl)))) (ok_nd (ok_nd (ok_lf (ok_GetR (by decide) (by decide) rfl d_X5_isToldSo_66 q703 rfl)) (ok_lf (ok_ICst d_X5_isToldSo_69 (by decide) rfl))) (ok_nd (ok_lf (ok_ILdn d_X5_isToldSo_70 rfl rfl)) (ok_nd (ok_lf (ok_IAS d_X5_isToldSo_71 rfl)) (ok_lf (ok_Go d_X5_isToldSo_72 (by decide))))))))) (ok_nd (ok_nd (ok_nd (ok_nd (ok_nd (ok_lf (ok_ALdn d_X5_isToldSo_75 rfl rfl)) (ok_lf (ok_GetR (by decide) (by decide) rfl d_X5_isToldSo_76 q703 rfl))) (ok_nd (ok_lf (ok_ICst d_X5_isToldSo_79 (by decide) rfl)) (ok_lf (ok_ILdn d_X5_isToldSo_80 rfl rfl)))) (ok_nd (ok_nd (ok_lf (ok_IAS d_X5_isToldSo_81 rfl)) (ok_lf (ok_Go d_X5_isToldSo_82 (by decide)))) (ok_nd (ok_lf (ok_ALdn d_X5_isToldSo_85 rfl rfl)) (ok_lf (ok_ALdn d_X5_isToldSo_86 rfl rfl))))) (ok_nd (ok_nd (ok_nd (ok_lf (ok_GetR (by decide) (by decide) rfl d_X5_isToldSo_87 q718 rfl)) (ok_lf (ok_ILdn d_X5_isToldSo_90 rfl rfl))) (ok_nd (ok_lf (ok_IAL d_X5_isToldSo_91 rfl)) (ok_lf (ok_ILdn d_X5_isToldSo_92 rfl rfl)))) (ok_nd (ok_nd (ok_lf (ok_CaV su_X5_comes (by decide) rfl d_X5_isToldSo_93 q812 q814 z57 q6 q815 ⟨by decide +kernel, by decide +kernel, by decide +kernel⟩ ⟨by decide, by decide⟩ rfl)) (ok_lf (ok_ISt d_X5_isToldSo_96 rfl))) (ok_nd (ok_lf (ok_ALdn d_X5_isToldSo_98 rfl rfl)) (ok_nd (ok_lf (ok_GetR (by decide) (by decide) rfl d_X5_isToldSo_99 q703 rfl)) (ok_lf (ok_ILd d_X5_isToldSo_102 rfl))))))) (ok_nd (ok_nd (ok_nd (ok_nd (ok_lf (ok_ICst d_X5_isToldSo_104 (by decide) rfl)) (ok_lf (ok_CaS su_X5_disputantAt d_X5_isToldSo_105 q816 q817 q6 q818 ⟨by decide +kernel, by decide +kernel, by decide +kernel⟩ ⟨by decide, by decide⟩ rfl))) (ok_nd (ok_lf (ok_ILdn d_X5_isToldSo_108 rfl rfl)) (ok_lf (ok_IAS d_X5_isToldSo_109 rfl)))) (ok_nd (ok_nd (ok_lf (ok_ALdn d_X5_isToldSo_110 rfl rfl)) (ok_lf (ok_GetR (by decide) (by decide) rfl d_X5_isToldSo_111 q703 rfl))) (ok_nd (ok_lf (ok_ILd d_X5_isToldSo_114 rfl)) (ok_lf (ok_ICst d_X5_isToldSo_116 (by decide) rfl))))) (ok_nd (ok_nd (ok_nd (ok_lf (ok_CaS su_X5_disputantAt d_X5_isToldSo_117 q816 q817 q6 q818 ⟨by decide +kernel, by decide +kernel, by decide +kernel⟩ ⟨by decide, by decide⟩ rfl)) (ok_lf (ok_ALdn d_X5_isToldSo_120 rfl rfl))) (ok_nd (ok_lf (ok_GetR (by decide) (by decide) rfl d_X5_isToldSo_121 q718 rfl)) (ok_lf (ok_ILdn d_X5_isToldSo_124 rfl rfl)))) (ok_nd (ok_nd (ok_lf (ok_ICst d_X5_isToldSo_125 (by decide) rfl)) (ok_lf (ok_iadd d_X5_isToldSo_126 rfl))) (ok_nd (ok_lf (ok_IAL d_X5_isToldSo_127 rfl)) (ok_nd (ok_lf (ok_IAS d_X5_isToldSo_128 rfl)) (ok_lf (ok_VRet d_X5_isToldSo_129))))))))
noncomputable def S_X5_isToldSo : Sem := lockS (inl P_X5_isToldSo 69 5) 0
theorem su_X5_isToldSo {l : Launch} {G : Gm} : SemU l G yX5_isToldSo (wsOf yX5_isToldSo cX5_isToldSo 5 none) 3 S_X5_isToldSo := sem_lock (sem_inl 69 (by decide +kernel) rfl ok_X5_isToldSo)
theorem d_X5_text_0 : decode cX5_text 0 = .ok (.aload_n 0, 1) := by decide +kernel
theorem d_X5_text_1 : decode cX5_text 1 = .ok (.iconst 0, 1) := by decide +kernel
theorem d_X5_text_2 : decode cX5_text 2 = .ok (.putfield 227, 3) := by decide +kernel
theorem d_X5_text_5 : decode cX5_text 5 = .ok (.aload_n 0, 1) := by decide +kernel
theorem d_X5_text_6 : decode cX5_text 6 = .ok (.iconst 0, 1) := by decide +kernel
theorem d_X5_text_7 : decode cX5_text 7 = .ok (.putfield 249, 3) := by decide +kernel
theorem d_X5_text_10 : decode cX5_text 10 = .ok (.aload_n 0, 1) := by decide +kernel
theorem d_X5_text_11 : decode cX5_text 11 = .ok (.iconst 0, 1) := by decide +kernel
theorem d_X5_text_12 : decode cX5_text 12 = .ok (.putfield 260, 3) := by decide +kernel
theorem d_X5_text_15 : decode cX5_text 15 = .ok (.aload_n 0, 1) := by decide +kernel
theorem d_X5_text_16 : decode cX5_text 16 = .ok (.aload_n 0, 1) := by decide +kernel
theorem d_X5_text_17 : decode cX5_text 17 = .ok (.getfield 9, 3) := by decide +kernel
theorem d_X5_text_20 : decode cX5_text 20 = .ok (.iconst 1, 1) := by decide +kernel
theorem d_X5_text_21 : decode cX5_text 21 = .ok (.iaload, 1) := by decide +kernel
theorem d_X5_text_22 : decode cX5_text 22 = .ok (.putfield 267, 3) := by decide +kernel
theorem d_X5_text_25 : decode cX5_text 25 = .ok (.aload_n 0, 1) := by decide +kernel
theorem d_X5_text_26 : decode cX5_text 26 = .ok (.invokevirtual 253, 3) := by decide +kernel
theorem d_X5_text_29 : decode cX5_text 29 = .ok (.aload_n 0, 1) := by decide +kernel
theorem d_X5_text_30 : decode cX5_text 30 = .ok (.invokevirtual 297, 3) := by decide +kernel
theorem d_X5_text_33 : decode cX5_text 33 = .ok (.aload_n 0, 1) := by decide +kernel
theorem d_X5_text_34 : decode cX5_text 34 = .ok (.getfield 249, 3) := by decide +kernel
theorem d_X5_text_37 : decode cX5_text 37 = .ok (.ifCond .ne 37, 3) := by decide +kernel
theorem d_X5_text_40 : decode cX5_text 40 = .ok (.aload_n 0, 1) := by decide +kernel
theorem d_X5_text_41 : decode cX5_text 41 = .ok (.getfield 239, 3) := by decide +kernel
theorem d_X5_text_44 : decode cX5_text 44 = .ok (.iconst 3, 1) := by decide +kernel
theorem d_X5_text_45 : decode cX5_text 45 = .ok (.if_icmp .ne 29, 3) := by decide +kernel
theorem d_X5_text_48 : decode cX5_text 48 = .ok (.aload_n 0, 1) := by decide +kernel
theorem d_X5_text_49 : decode cX5_text 49 = .ok (.getfield 22, 3) := by decide +kernel
theorem d_X5_text_52 : decode cX5_text 52 = .ok (.aload_n 0, 1) := by decide +kernel
theorem d_X5_text_53 : decode cX5_text 53 = .ok (.getfield 230, 3) := by decide +kernel
theorem d_X5_text_56 : decode cX5_text 56 = .ok (.iaload, 1) := by decide +kernel
theorem d_X5_text_57 : decode cX5_text 57 = .ok (.bipush 59, 2) := by decide +kernel
theorem d_X5_text_59 : decode cX5_text 59 = .ok (.if_icmp .ne 15, 3) := by decide +kernel
theorem d_X5_text_62 : decode cX5_text 62 = .ok (.aload_n 0, 1) := by decide +kernel
theorem d_X5_text_63 : decode cX5_text 63 = .ok (.iconst 1, 1) := by decide +kernel
theorem d_X5_text_64 : decode cX5_text 64 = .ok (.invokevirtual 256, 3) := by decide +kernel
theorem d_X5_text_67 : decode cX5_text 67 = .ok (.aload_n 0, 1) := by decide +kernel
theorem d_X5_text_68 : decode cX5_text 68 = .ok (.invokevirtual 297, 3) := by decide +kernel
theorem d_X5_text_71 : decode cX5_text 71 = .ok (.goto (-38), 3) := by decide +kernel
theorem d_X5_text_74 : decode cX5_text 74 = .ok (.aload_n 0, 1) := by decide +kernel
theorem d_X5_text_75 : decode cX5_text 75 = .ok (.aload_n 0, 1) := by decide +kernel
theorem d_X5_text_76 : decode cX5_text 76 = .ok (.getfield 239, 3) := by decide +kernel
theorem d_X5_text_79 : decode cX5_text 79 = .ok (.ifCond .ne 7, 3) := by decide +kernel
theorem d_X5_text_82 : decode cX5_text 82 = .ok (.iconst 1, 1) := by decide +kernel
theorem d_X5_text_83 : decode cX5_text 83 = .ok (.goto 4, 3) := by decide +kernel
theorem d_X5_text_86 : decode cX5_text 86 = .ok (.iconst 0, 1) := by decide +kernel
theorem d_X5_text_87 : decode cX5_text 87 = .ok (.invokevirtual 256, 3) := by decide +kernel
theorem d_X5_text_90 : decode cX5_text 90 = .ok (.aload_n 0, 1) := by decide +kernel
theorem d_X5_text_91 : decode cX5_text 91 = .ok (.iconst 0, 1) := by decide +kernel
theorem d_X5_text_92 : decode cX5_text 92 = .ok (.putfield 224, 3) := by decide +kernel
theorem d_X5_text_95 : decode cX5_text 95 = .ok (.aload_n 0, 1) := by decide +kernel
theorem d_X5_text_96 : decode cX5_text 96 = .ok (.getfield 249, 3) := by decide +kernel
theorem d_X5_text_99 : decode cX5_text 99 = .ok (.ifCond .eq 10, 3) := by decide +kernel
theorem d_X5_text_102 : decode cX5_text 102 = .ok (.iconst (-1), 1) := by decide +kernel
theorem d_X5_text_103 : decode cX5_text 103 = .ok (.aload_n 0, 1) := by decide +kernel
theorem d_X5_text_104 : decode cX5_text 104 = .ok (.getfield 230, 3) := by decide +kernel
theorem d_X5_text_107 : decode cX5_text 107 = .ok (.isub, 1) := by decide +kernel
theorem d_X5_text_108 : decode cX5_text 108 = .ok (.ireturn, 1) := by decide +kernel
theorem d_X5_text_109 : decode cX5_text 109 = .ok (.iconst 0, 1) := by decide +kernel
theorem d_X5_text_110 : decode cX5_text 110 = .ok (.istore_n 1, 1) := by decide +kernel
theorem d_X5_text_111 : decode cX5_text 111 = .ok (.iload_n 1, 1) := by decide +kernel
theorem d_X5_text_112 : decode cX5_text 112 = .ok (.aload_n 0, 1) := by decide +kernel
theorem d_X5_text_113 : decode cX5_text 113 = .ok (.getfield 260, 3) := by decide +kernel
theorem d_X5_text_116 : decode cX5_text 116 = .ok (.if_icmp .ge 16, 3) := by decide +kernel
theorem d_X5_text_119 : decode cX5_text 119 = .ok (.aload_n 0, 1) := by decide +kernel
theorem d_X5_text_120 : decode cX5_text 120 = .ok (.iconst 4, 1) := by decide +kernel
theorem d_X5_text_121 : decode cX5_text 121 = .ok (.iload_n 1, 1) := by decide +kernel
theorem d_X5_text_122 : decode cX5_text 122 = .ok (.imul, 1) := by decide +kernel
theorem d_X5_text_123 : decode cX5_text 123 = .ok (.invokevirtual 300, 3) := by decide +kernel
theorem d_X5_text_126 : decode cX5_text 126 = .ok (.iinc 1 1, 3) := by decide +kernel
theorem d_X5_text_129 : decode cX5_text 129 = .ok (.goto (-18), 3) := by decide +kernel
theorem d_X5_text_132 : decode cX5_text 132 = .ok (.aload_n 0, 1) := by decide +kernel
theorem d_X5_text_133 : decode cX5_text 133 = .ok (.getfield 260, 3) := by decide +kernel
theorem d_X5_text_136 : decode cX5_text 136 = .ok (.ireturn, 1) := by decide +kernel
noncomputable def P_X5_text : Nat → Op := fun pc => nd 68 pc (nd 30 pc (nd 15 pc (nd 6 pc (nd 2 pc (nd 1 pc (lf 0 pc (oALd 0 1)) (lf 1 pc (oCst 0 2))) (nd 5 pc (lf 2 pc (oPutI 5 10 5)) (lf 5 pc (oALd 0 6)))) (nd 10 pc (nd 7 pc (lf 6 pc (oCst 0 7)) (lf 7 pc (oPutZ 5 13 10))) (nd 11 pc (lf 10 pc (oALd 0 11)) (nd 12 pc (lf 11 pc (oCst 0 12)) (lf 12 pc (oPutI 5 16 15)))))) (nd 21 pc (nd 17 pc (nd 16 pc (lf 15 pc (oALd 0 16)) (lf 16 pc (oALd 0 17))) (nd 20 pc (lf 17 pc (oGetR 5 0 20)) (lf 20 pc (oCst 1 21)))) (nd 25 pc (nd 22 pc (lf 21 pc (oIAL 22)) (lf 22 pc (oPutI 5 17 25))) (nd 26 pc (lf 25 pc (oALd 0 26)) (nd 29 pc (lf 26 pc (oCaV 1 5 S_X5_token 29)) (lf 29 pc (oALd 0 30))))))) (nd 49 pc (nd 40 pc (nd 34 pc (nd 33 pc (lf 30 pc (oCaV 1 5 S_X5_readItem 33)) (lf 33 pc (lockO (oALd 0 34) 0))) (nd 37 pc (lf 34 pc (oGetI 5 13 37)) (lf 37 pc (oIfEq 40 74)))) (nd 44 pc (nd 41 pc (lf 40 pc (oALd 0 41)) (lf 41 pc (oGetI 5 11 44))) (nd 45 pc (lf 44 pc (oCst 3 45)) (nd 48 pc (lf 45 pc (oCpEq 48 74)) (lf 48 pc (oALd 0 49)))))) (nd 59 pc (nd 53 pc (nd 52 pc (lf 49 pc (oGetR 5 7 52)) (lf 52 pc (oALd 0 53))) (nd 56 pc (lf 53 pc (oGetI 5 9 56)) (nd 57 pc (lf 56 pc (oIAL 57)) (lf 57 pc (oCst 59 59))))) (nd 63 pc (nd 62 pc (lf 59 pc (oCpEq 62 74)) (lf 62 pc (oALd 0 63))) (nd 64 pc (lf 63 pc (oCst 1 64)) (nd 67 pc (lf 64 pc (oCaV 2 5 S_X5_must 67)) (lf 67 pc (oALd 0 68)))))))) (nd 104 pc (nd 87 pc (nd 76 pc (nd 74 pc (nd 71 pc (lf 68 pc (oCaV 1 5 S_X5_readItem 71)) (lf 71 pc (oGo 33))) (nd 75 pc (lf 74 pc (oALd 0 75)) (lf 75 pc (oALd 0 76)))) (nd 82 pc (nd 79 pc (lf 76 pc (oGetI 5 11 79)) (lf 79 pc (oIfEq 82 86))) (nd 83 pc (lf 82 pc (oCst 1 83)) (nd 86 pc (lf 83 pc (oGo 87)) (lf 86 pc (oCst 0 87)))))) (nd 95 pc (nd 91 pc (nd 90 pc (lf 87 pc (oCaV 2 5 S_X5_must 90)) (lf 90 pc (oALd 0 91))) (nd 92 pc (lf 91 pc (oCst 0 92)) (lf 92 pc (oPutI 5 8 95)))) (nd 99 pc (nd 96 pc (lf 95 pc (oALd 0 96)) (lf 96 pc (oGetI 5 13 99))) (nd 102 pc (lf 99 pc (oIfEq 109 102)) (nd 103 pc (lf 102 pc (oCst (-1) 103)) (lf 103 pc (oALd 0 104))))))) (nd 119 pc (nd 110 pc (nd 108 pc (nd 107 pc (lf 104 pc (oGetI 5 9 107)) (lf 107 pc (oBin (fun x y => x - y) 108))) (nd 109 pc (lf 108 pc (oIRet)) (lf 109 pc (oCst 0 110)))) (nd 112 pc (nd 111 pc (lf 110 pc (oISt 1 111)) (lf 111 pc (lockO (oILd 1 112) 0))) (nd 113 pc (lf 112 pc (oALd 0 113)) (nd 116 pc (lf 113 pc (oGetI 5 16 116)) (lf 116 pc (oCpLt 119 132)))))) (nd 126 pc (nd 121 pc (nd 120 pc (lf 119 pc (oALd 0 120)) (lf 120 pc (oCst 4 121))) (nd 122 pc (lf 121 pc (oILd 1 122)) (nd 123 pc (lf 122 pc (oBin (fun x y => x * y) 123)) (lf 123 pc (oCaV 2 5 S_X5_isToldSo 126))))) (nd 132 pc (nd 129 pc (lf 126 pc (oInc 1 1 129)) (lf 129 pc (oGo 111))) (nd 133 pc (lf 132 pc (oALd 0 133)) (nd 136 pc (lf 133 pc (oGetI 5 16 136)) (lf 136 pc (oIRet))))))))
theorem ok_X5_text {l : Launch} {G : Gm} : ∀ pc, OkU (TXm l G (rmD 9) 2 cX5_text RX5) (RXm l G (rmD 9) 2 cX5_text RX5 (some .int)) pc (P_X5_text pc) := fun pc => ok_nd (ok_nd (ok_nd (ok_nd (ok_nd (ok_nd (ok_lf (ok_ALdn d_X5_text_0 rfl rfl)) (ok_lf (ok_ICst d_X5_text_1 (by decide) rfl))) (ok_nd (ok_lf (ok_PutI (by decide) (by decide) rfl rfl (by decide +kernel) d_X5_text_2 q713 rfl)) (ok_lf (ok_ALdn d_X5_text_5 rfl rfl)))) (ok_nd (ok_nd (ok_lf (ok_ICst d_X5_text_6 (by decide) rfl)) (ok_lf (ok_PutZ (by decide) (by decide) rfl rfl (by decide +kernel) d_X5_text_7 q716 rfl))) (ok_nd (ok_lf (ok_ALdn d_X5_text_10 rfl rfl)) (ok_nd (ok_lf (ok_ICst d_X5_text_11 (by decide) rfl)) (ok_lf (ok_PutI (by decide) (by decide) rfl rfl (by decide +kernel) d_X5_text_12 q719 rfl)))))) (ok_nd (ok_nd (ok_nd (ok_lf (ok_ALdn d_X5_text_15 rfl rfl)) (ok_lf (ok_ALdn d_X5_text_16 rfl rfl))) (ok_nd (ok_lf (ok_GetR (by decide) (by decide) rfl d_X5_text_17 q703 rfl)) (ok_lf (ok_ICst d_X5_text_20 (by decide) rfl)))) (ok_nd (ok_nd (ok_lf (ok_IAL d_X5_text_21 rfl)) (ok_lf (ok_PutI (by decide) (by decide) rfl rfl (by decide +kernel) d_X5_text_22 q720 rfl))) (ok_nd (ok_lf (ok_ALdn d_X5_text_25 rfl rfl)) (ok_nd (ok_lf (ok_CaV su_X5_token (by decide) rfl d_X5_text_26 q1065 q1067 z88 q6 q1068 ⟨by decide +kernel, by decide +kernel, by decide +kernel⟩ ⟨by decide, by decide⟩ rfl)) (ok_lf (ok_ALdn d_X5_text_29 rfl rfl))))))) (ok_nd (ok_nd (ok_nd (ok_nd (ok_lf (ok_CaV su_X5_readItem (by decide) rfl d_X5_text_30 q1073 q1075 z90 q6 q1076 ⟨by decide +kernel, by decide +kernel, by decide +kernel⟩ ⟨by decide, by decide⟩ rfl)) (ok_lf (ok_lk (ok_ALdn d_X5_text_33 rfl rfl)))) (ok_nd (ok_lf (ok_GetI (by decide) (by decide) rfl d_X5_text_34 q716 rfl)) (ok_lf (ok_IfNe d_X5_text_37 (by decide) rfl)))) (ok_nd (ok_nd (ok_lf (ok_ALdn d_X5_text_40 rfl rfl)) (ok_lf (ok_GetI (by decide) (by decide) rfl d_X5_text_41 q714 rfl))) (ok_nd (ok_lf (ok_ICst d_X5_text_44 (by decide) rfl)) (ok_nd (ok_lf (ok_CpNe d_X5_text_45 (by decide) rfl)) (ok_lf (ok_ALdn d_X5_text_48 rfl rfl)))))) (ok_nd (ok_nd (ok_nd (ok_lf (ok_GetR (by decide) (by decide) rfl d_X5_text_49 q710 rfl)) (ok_lf (ok_ALdn d_X5_text_52 rfl rfl))) (ok_nd (ok_lf (ok_GetI (by decide) (by decide) rfl d_X5_text_53 q712 rfl)) (ok_nd (ok_lf (ok_IAL d_X5_text_56 rfl)) (ok_lf (ok_BCst d_X5_text_57 (by decide) rfl))))) (ok_nd (ok_nd (ok_lf (ok_CpNe d_X5_text_59 (by decide) rfl)) (ok_lf (ok_ALdn d_X5_text_62 rfl rfl))) (ok_nd (ok_lf (ok_ICst d_X5_text_63 (by decide) rfl)) (ok_nd (ok_lf (ok_CaV su_X5_must (by decide) rfl d_X5_text_64 q1087 q1089 z93 q6 q1090 ⟨by decide +kernel, by decide +kernel, by decide +kernel⟩ ⟨by decide, by decide⟩ rfl)) (ok_lf (ok_ALdn d_X5_text_67 rfl rfl)))))))) (ok_nd (ok_nd (ok_nd (ok_nd (ok_nd (ok_lf (ok_CaV su_X5_readItem (by decide) rfl d_X5_text_68 q1073 q1075 z90 q6 q1076 ⟨by decide +kernel, by decide +kernel, by decide +kernel⟩ ⟨by decide, by decide⟩ rfl)) (ok_lf (ok_Go d_X5_text_71 (by decide)))) (ok_nd (ok_lf (ok_ALdn d_X5_text_74 rfl rfl)) (ok_lf (ok_ALdn d_X5_text_75 rfl rfl)))) (ok_nd (ok_nd (ok_lf (ok_GetI (by decide) (by decide) rfl d_X5_text_76 q714 rfl)) (ok_lf (ok_IfNe d_X5_text_79 (by decide) rfl))) (ok_nd (ok_lf (ok_ICst d_X5_text_82 (by decide) rfl)) (ok_nd (ok_lf (ok_Go d_X5_text_83 (by decide))) (ok_lf (ok_ICst d_X5_text_86 (by decide) rfl)))))) (ok_nd (ok_nd (ok_nd (ok_lf (ok_CaV su_X5_must (by decide) rfl d_X5_text_87 q1087 q1089 z93 q6 q1090 ⟨by decide +kernel, by decide +kernel, by decide +kernel⟩ ⟨by decide, by decide⟩ rfl)) (ok_lf (ok_ALdn d_X5_text_90 rfl rfl))) (ok_nd (ok_lf (ok_ICst d_X5_text_91 (by decide) rfl)) (ok_lf (ok_PutI (by decide) (by decide) rfl rfl (by decide +kernel) d_X5_text_92 q711 rfl)))) (ok_nd (ok_nd (ok_lf (ok_ALdn d_X5_text_95 rfl rfl)) (ok_lf (ok_GetI (by decide) (by decide) rfl d_X5_text_96 q716 rfl))) (ok_nd (ok_lf (ok_IfEq d_X5_text_99 (by decide) rfl)) (ok_nd (ok_lf (ok_ICst d_X5_text_102 (by decide) rfl)) (ok_lf (ok_ALdn d_X5_text_103 rfl rfl))))))) (ok_nd (ok_nd (ok_nd (ok_nd (ok_lf (ok_GetI (by decide) (by decide) rfl d_X5_text_104 q712 rfl)) (ok_lf (ok_isub d_X5_text_107 rfl))) (ok_nd (ok_lf (ok_IRet d_X5_text_108)) (ok_lf (ok_ICst d_X5_text_109 (by decide) rfl)))) (ok_nd (ok_nd (ok_lf (ok_IStn d_X5_text_110 rfl rfl)) (ok_lf (ok_lk (ok_ILdn d_X5_text_111 rfl rfl)))) (ok_nd (ok_lf (ok_ALdn d_X5_text_112 rfl rfl)) (ok_nd (ok_lf (ok_GetI (by decide) (by decide) rfl d_X5_text_113 q719 rfl)) (ok_lf (ok_CpGe d_X5_text_116 (by decide) rfl)))))) (ok_nd (ok_nd (ok_nd (ok_lf (ok_ALdn d_X5_text_119 rfl rfl)) (ok_lf (ok_ICst d_X5_text_120 (by decide) rfl))) (ok_nd (ok_lf (ok_ILdn d_X5_text_121 rfl rfl)) (ok_nd (ok_lf (ok_imul d_X5_text_122 rfl)) (ok_lf (ok_CaV su_X5_isToldSo (by decide) rfl d_X5_text_123 q1113 q1115 z98 q6 q1116 ⟨by decide +kernel, by decide +kernel, by decide +kernel⟩ ⟨by decide, by decide⟩ rfl))))) (ok_nd (ok_nd (ok_lf (ok_Inc d_X5_text_126 (by decide) rfl)) (ok_lf (ok_Go d_X5_text_129 (by decide)))) (ok_nd (ok_lf (ok_ALdn d_X5_text_132 rfl rfl)) (ok_nd (ok_lf (ok_GetI (by decide) (by decide) rfl d_X5_text_133 q719 rfl)) (ok_lf (ok_IRet d_X5_text_136))))))))
noncomputable def S_X5_text : Sem := lockS (inl P_X5_text 30000 2) 0
theorem su_X5_text {l : Launch} {G : Gm} : SemU l G yX5_text (wsOf yX5_text cX5_text 2 (some .int)) 9 S_X5_text := sem_lock (sem_inl 30000 (by decide +kernel) rfl ok_X5_text)
theorem d_X5_isSpot_0 : decode cX5_isSpot 0 = .ok (.iload_n 0, 1) := by decide +kernel
theorem d_X5_isSpot_1 : decode cX5_isSpot 1 = .ok (.iconst 0, 1) := by decide +kernel
theorem d_X5_isSpot_2 : decode cX5_isSpot 2 = .ok (.bipush 9, 2) := by decide +kernel
theorem d_X5_isSpot_4 : decode cX5_isSpot 4 = .ok (.invokestatic 70, 3) := by decide +kernel
theorem d_X5_isSpot_7 : decode cX5_isSpot 7 = .ok (.ireturn, 1) := by decide +kernel
noncomputable def P_X5_isSpot : Nat → Op := fun pc => nd 2 pc (nd 1 pc (lf 0 pc (oILd 0 1)) (lf 1 pc (oCst 0 2))) (nd 4 pc (lf 2 pc (oCst 9 4)) (nd 7 pc (lf 4 pc (oCaS 3 S_X5_within 7)) (lf 7 pc (oZRet))))
theorem ok_X5_isSpot {l : Launch} {G : Gm} : ∀ pc, OkU (TXm l G (rmD 2) 1 cX5_isSpot RX5) (RXm l G (rmD 2) 1 cX5_isSpot RX5 (some .boolean)) pc (P_X5_isSpot pc) := fun pc => ok_nd (ok_nd (ok_lf (ok_ILdn d_X5_isSpot_0 rfl rfl)) (ok_lf (ok_ICst d_X5_isSpot_1 (by decide) rfl))) (ok_nd (ok_lf (ok_BCst d_X5_isSpot_2 (by decide) rfl)) (ok_nd (ok_lf (ok_CaS su_X5_within d_X5_isSpot_4 q774 q775 q6 q776 ⟨by decide +kernel, by decide +kernel, by decide +kernel⟩ ⟨by decide, by decide⟩ rfl)) (ok_lf (ok_ZRet d_X5_isSpot_7))))
noncomputable def S_X5_isSpot : Sem := inl P_X5_isSpot 7 1
theorem su_X5_isSpot {l : Launch} {G : Gm} : SemU l G yX5_isSpot (wsOf yX5_isSpot cX5_isSpot 1 (some .boolean)) 2 S_X5_isSpot := sem_inl 7 (by decide +kernel) rfl ok_X5_isSpot
theorem d_X5_hold_0 : decode cX5_hold 0 = .ok (.iload_n 1, 1) := by decide +kernel
theorem d_X5_hold_1 : decode cX5_hold 1 = .ok (.invokestatic 303, 3) := by decide +kernel
theorem d_X5_hold_4 : decode cX5_hold 4 = .ok (.ifCond .eq 16, 3) := by decide +kernel
theorem d_X5_hold_7 : decode cX5_hold 7 = .ok (.iload_n 2, 1) := by decide +kernel
theorem d_X5_hold_8 : decode cX5_hold 8 = .ok (.iconst (-1), 1) := by decide +kernel
theorem d_X5_hold_9 : decode cX5_hold 9 = .ok (.if_icmp .eq 18, 3) := by decide +kernel
theorem d_X5_hold_12 : decode cX5_hold 12 = .ok (.aload_n 0, 1) := by decide +kernel
theorem d_X5_hold_13 : decode cX5_hold 13 = .ok (.iload_n 2, 1) := by decide +kernel
theorem d_X5_hold_14 : decode cX5_hold 14 = .ok (.invokevirtual 121, 3) := by decide +kernel
theorem d_X5_hold_17 : decode cX5_hold 17 = .ok (.ifCond .ne 10, 3) := by decide +kernel
theorem d_X5_hold_20 : decode cX5_hold 20 = .ok (.aload_n 0, 1) := by decide +kernel
theorem d_X5_hold_21 : decode cX5_hold 21 = .ok (.ldc 60, 2) := by decide +kernel
theorem d_X5_hold_23 : decode cX5_hold 23 = .ok (.invokevirtual 66, 3) := by decide +kernel
theorem d_X5_hold_26 : decode cX5_hold 26 = .ok (.ireturn, 1) := by decide +kernel
theorem d_X5_hold_27 : decode cX5_hold 27 = .ok (.aload_n 0, 1) := by decide +kernel
theorem d_X5_hold_28 : decode cX5_hold 28 = .ok (.getfield 9, 3) := by decide +kernel
theorem d_X5_hold_31 : decode cX5_hold 31 = .ok (.bipush 12, 2) := by decide +kernel
theorem d_X5_hold_33 : decode cX5_hold 33 = .ok (.iload_n 1, 1) := by decide +kernel
theorem d_X5_hold_34 : decode cX5_hold 34 = .ok (.iadd, 1) := by decide +kernel
theorem d_X5_hold_35 : decode cX5_hold 35 = .ok (.iload_n 2, 1) := by decide +kernel
theorem d_X5_hold_36 : decode cX5_hold 36 = .ok (.iastore, 1) := by decide +kernel
theorem d_X5_hold_37 : decode cX5_hold 37 = .ok (.iconst 1, 1) := by decide +kernel
theorem d_X5_hold_38 : decode cX5_hold 38 = .ok (.ireturn, 1) := by decide +kernel
noncomputable def P_X5_hold : Nat → Op := fun pc => nd 21 pc (nd 9 pc (nd 4 pc (nd 1 pc (lf 0 pc (oILd 1 1)) (lf 1 pc (oCaS 1 S_X5_isSpot 4))) (nd 7 pc (lf 4 pc (oIfEq 20 7)) (nd 8 pc (lf 7 pc (oILd 2 8)) (lf 8 pc (oCst (-1) 9))))) (nd 14 pc (nd 12 pc (lf 9 pc (oCpEq 27 12)) (nd 13 pc (lf 12 pc (oALd 0 13)) (lf 13 pc (oILd 2 14)))) (nd 17 pc (lf 14 pc (oCaV 2 5 S_X5_isDisputant 17)) (nd 20 pc (lf 17 pc (oIfEq 20 27)) (lf 20 pc (oALd 0 21)))))) (nd 33 pc (nd 27 pc (nd 23 pc (lf 21 pc (oCst (-1000001) 23)) (nd 26 pc (lf 23 pc (oCaV 2 5 S_X5_finding 26)) (lf 26 pc (oIRet)))) (nd 28 pc (lf 27 pc (oALd 0 28)) (nd 31 pc (lf 28 pc (oGetR 5 0 31)) (lf 31 pc (oCst 12 33))))) (nd 36 pc (nd 34 pc (lf 33 pc (oILd 1 34)) (nd 35 pc (lf 34 pc (oBin (fun x y => x + y) 35)) (lf 35 pc (oILd 2 36)))) (nd 37 pc (lf 36 pc (oIAS 37)) (nd 38 pc (lf 37 pc (oCst 1 38)) (lf 38 pc (oIRet))))))
theorem ok_X5_hold {l : Launch} {G : Gm} : ∀ pc, OkU (TXm l G (rmD 3) 3 cX5_hold RX5) (RXm l G (rmD 3) 3 cX5_hold RX5 (some .int)) pc (P_X5_hold pc) := fun pc => ok_nd (ok_nd (ok_nd (ok_nd (ok_lf (ok_ILdn d_X5_hold_0 rfl rfl)) (ok_lf (ok_CaS su_X5_isSpot d_X5_hold_1 q1121 q1122 q6 q1123 ⟨by decide +kernel, by decide +kernel, by decide +kernel⟩ ⟨by decide, by decide⟩ rfl))) (ok_nd (ok_lf (ok_IfEq d_X5_hold_4 (by decide) rfl)) (ok_nd (ok_lf (ok_ILdn d_X5_hold_7 rfl rfl)) (ok_lf (ok_ICst d_X5_hold_8 (by decide) rfl))))) (ok_nd (ok_nd (ok_lf (ok_CpEq d_X5_hold_9 (by decide) rfl)) (ok_nd (ok_lf (ok_ALdn d_X5_hold_12 rfl rfl)) (ok_lf (ok_ILdn d_X5_hold_13 rfl rfl)))) (ok_nd (ok_lf (ok_CaV su_X5_isDisputant (by decide) rfl d_X5_hold_14 q823 q825 z58 q6 q826 ⟨by decide +kernel, by decide +kernel, by decide +kernel⟩ ⟨by decide, by decide⟩ rfl)) (ok_nd (ok_lf (ok_IfNe d_X5_hold_17 (by decide) rfl)) (ok_lf (ok_ALdn d_X5_hold_20 rfl rfl)))))) (ok_nd (ok_nd (ok_nd (ok_lf (ok_Ldc d_X5_hold_21 q781 rfl)) (ok_nd (ok_lf (ok_CaV su_X5_finding (by decide) rfl d_X5_hold_23 q782 q784 z56 q6 q785 ⟨by decide +kernel, by decide +kernel, by decide +kernel⟩ ⟨by decide, by decide⟩ rfl)) (ok_lf (ok_IRet d_X5_hold_26)))) (ok_nd (ok_lf (ok_ALdn d_X5_hold_27 rfl rfl)) (ok_nd (ok_lf (ok_GetR (by decide) (by decide) rfl d_X5_hold_28 q703 rfl)) (ok_lf (ok_BCst d_X5_hold_31 (by decide) rfl))))) (ok_nd (ok_nd (ok_lf (ok_ILdn d_X5_hold_33 rfl rfl)) (ok_nd (ok_lf (ok_iadd d_X5_hold_34 rfl)) (ok_lf (ok_ILdn d_X5_hold_35 rfl rfl)))) (ok_nd (ok_lf (ok_IAS d_X5_hold_36 rfl)) (ok_nd (ok_lf (ok_ICst d_X5_hold_37 (by decide) rfl)) (ok_lf (ok_IRet d_X5_hold_38))))))
noncomputable def S_X5_hold : Sem := lockS (inl P_X5_hold 25 3) 0
theorem su_X5_hold {l : Launch} {G : Gm} : SemU l G yX5_hold (wsOf yX5_hold cX5_hold 3 (some .int)) 3 S_X5_hold := sem_lock (sem_inl 25 (by decide +kernel) rfl ok_X5_hold)
theorem d_X5_above_0 : decode cX5_above 0 = .ok (.iload_n 0, 1) := by decide +kernel
theorem d_X5_above_1 : decode cX5_above 1 = .ok (.ifCond .ne 7, 3) := by decide +kernel
theorem d_X5_above_4 : decode cX5_above 4 = .ok (.iconst (-1), 1) := by decide +kernel
theorem d_X5_above_5 : decode cX5_above 5 = .ok (.goto 32, 3) := by decide +kernel
theorem d_X5_above_8 : decode cX5_above 8 = .ok (.iload_n 0, 1) := by decide +kernel
theorem d_X5_above_9 : decode cX5_above 9 = .ok (.iconst 3, 1) := by decide +kernel
theorem d_X5_above_10 : decode cX5_above 10 = .ok (.if_icmp .ne 7, 3) := by decide +kernel
theorem d_X5_above_13 : decode cX5_above 13 = .ok (.iconst 2, 1) := by decide +kernel
theorem d_X5_above_14 : decode cX5_above 14 = .ok (.goto 23, 3) := by decide +kernel
theorem d_X5_above_17 : decode cX5_above 17 = .ok (.iload_n 0, 1) := by decide +kernel
theorem d_X5_above_18 : decode cX5_above 18 = .ok (.iconst 4, 1) := by decide +kernel
theorem d_X5_above_19 : decode cX5_above 19 = .ok (.if_icmp .ne 7, 3) := by decide +kernel
theorem d_X5_above_22 : decode cX5_above 22 = .ok (.iconst 3, 1) := by decide +kernel
theorem d_X5_above_23 : decode cX5_above 23 = .ok (.goto 14, 3) := by decide +kernel
theorem d_X5_above_26 : decode cX5_above 26 = .ok (.iload_n 0, 1) := by decide +kernel
theorem d_X5_above_27 : decode cX5_above 27 = .ok (.bipush 6, 2) := by decide +kernel
theorem d_X5_above_29 : decode cX5_above 29 = .ok (.if_icmp .ne 7, 3) := by decide +kernel
theorem d_X5_above_32 : decode cX5_above 32 = .ok (.iconst 1, 1) := by decide +kernel
theorem d_X5_above_33 : decode cX5_above 33 = .ok (.goto 4, 3) := by decide +kernel
theorem d_X5_above_36 : decode cX5_above 36 = .ok (.iconst 0, 1) := by decide +kernel
theorem d_X5_above_37 : decode cX5_above 37 = .ok (.ireturn, 1) := by decide +kernel
noncomputable def P_X5_above : Nat → Op := fun pc => nd 18 pc (nd 9 pc (nd 4 pc (nd 1 pc (lf 0 pc (oILd 0 1)) (lf 1 pc (oIfEq 4 8))) (nd 5 pc (lf 4 pc (oCst (-1) 5)) (nd 8 pc (lf 5 pc (oGo 37)) (lf 8 pc (oILd 0 9))))) (nd 13 pc (nd 10 pc (lf 9 pc (oCst 3 10)) (lf 10 pc (oCpEq 13 17))) (nd 14 pc (lf 13 pc (oCst 2 14)) (nd 17 pc (lf 14 pc (oGo 37)) (lf 17 pc (oILd 0 18)))))) (nd 27 pc (nd 22 pc (nd 19 pc (lf 18 pc (oCst 4 19)) (lf 19 pc (oCpEq 22 26))) (nd 23 pc (lf 22 pc (oCst 3 23)) (nd 26 pc (lf 23 pc (oGo 37)) (lf 26 pc (oILd 0 27))))) (nd 33 pc (nd 29 pc (lf 27 pc (oCst 6 29)) (nd 32 pc (lf 29 pc (oCpEq 32 36)) (lf 32 pc (oCst 1 33)))) (nd 36 pc (lf 33 pc (oGo 37)) (nd 37 pc (lf 36 pc (oCst 0 37)) (lf 37 pc (oIRet))))))
theorem ok_X5_above {l : Launch} {G : Gm} : ∀ pc, OkU (TXm l G (rmD 1) 1 cX5_above RX5) (RXm l G (rmD 1) 1 cX5_above RX5 (some .int)) pc (P_X5_above pc) := fun pc => ok_nd (ok_nd (ok_nd (ok_nd (ok_lf (ok_ILdn d_X5_above_0 rfl rfl)) (ok_lf (ok_IfNe d_X5_above_1 (by decide) rfl))) (ok_nd (ok_lf (ok_ICst d_X5_above_4 (by decide) rfl)) (ok_nd (ok_lf (ok_Go d_X5_above_5 (by decide))) (ok_lf (ok_ILdn d_X5_above_8 rfl rfl))))) (ok_nd (ok_nd (ok_lf (ok_ICst d_X5_above_9 (by decide) rfl)) (ok_lf (ok_CpNe d_X5_above_10 (by decide) rfl))) (ok_nd (ok_lf (ok_ICst d_X5_above_13 (by decide) rfl)) (ok_nd (ok_lf (ok_Go d_X5_above_14 (by decide))) (ok_lf (ok_ILdn d_X5_above_17 rfl rfl)))))) (ok_nd (ok_nd (ok_nd (ok_lf (ok_ICst d_X5_above_18 (by decide) rfl)) (ok_lf (ok_CpNe d_X5_above_19 (by decide) rfl))) (ok_nd (ok_lf (ok_ICst d_X5_above_22 (by decide) rfl)) (ok_nd (ok_lf (ok_Go d_X5_above_23 (by decide))) (ok_lf (ok_ILdn d_X5_above_26 rfl rfl))))) (ok_nd (ok_nd (ok_lf (ok_BCst d_X5_above_27 (by decide) rfl)) (ok_nd (ok_lf (ok_CpNe d_X5_above_29 (by decide) rfl)) (ok_lf (ok_ICst d_X5_above_32 (by decide) rfl)))) (ok_nd (ok_lf (ok_Go d_X5_above_33 (by decide))) (ok_nd (ok_lf (ok_ICst d_X5_above_36 (by decide) rfl)) (ok_lf (ok_IRet d_X5_above_37))))))
noncomputable def S_X5_above : Sem := inl P_X5_above 23 1
theorem su_X5_above {l : Launch} {G : Gm} : SemU l G yX5_above (wsOf yX5_above cX5_above 1 (some .int)) 1 S_X5_above := sem_inl 23 (by decide +kernel) rfl ok_X5_above
theorem d_X5_isUnder_0 : decode cX5_isUnder 0 = .ok (.iload_n 0, 1) := by decide +kernel
theorem d_X5_isUnder_1 : decode cX5_isUnder 1 = .ok (.istore_n 2, 1) := by decide +kernel
theorem d_X5_isUnder_2 : decode cX5_isUnder 2 = .ok (.iload_n 2, 1) := by decide +kernel
theorem d_X5_isUnder_3 : decode cX5_isUnder 3 = .ok (.ifCond .lt 16, 3) := by decide +kernel
theorem d_X5_isUnder_6 : decode cX5_isUnder 6 = .ok (.iload_n 2, 1) := by decide +kernel
theorem d_X5_isUnder_7 : decode cX5_isUnder 7 = .ok (.iload_n 1, 1) := by decide +kernel
theorem d_X5_isUnder_8 : decode cX5_isUnder 8 = .ok (.if_icmp .eq 11, 3) := by decide +kernel
theorem d_X5_isUnder_11 : decode cX5_isUnder 11 = .ok (.iload_n 2, 1) := by decide +kernel
theorem d_X5_isUnder_12 : decode cX5_isUnder 12 = .ok (.invokestatic 314, 3) := by decide +kernel
theorem d_X5_isUnder_15 : decode cX5_isUnder 15 = .ok (.istore_n 2, 1) := by decide +kernel
theorem d_X5_isUnder_16 : decode cX5_isUnder 16 = .ok (.goto (-14), 3) := by decide +kernel
theorem d_X5_isUnder_19 : decode cX5_isUnder 19 = .ok (.iload_n 2, 1) := by decide +kernel
theorem d_X5_isUnder_20 : decode cX5_isUnder 20 = .ok (.ifCond .lt 7, 3) := by decide +kernel
theorem d_X5_isUnder_23 : decode cX5_isUnder 23 = .ok (.iconst 1, 1) := by decide +kernel
theorem d_X5_isUnder_24 : decode cX5_isUnder 24 = .ok (.goto 4, 3) := by decide +kernel
theorem d_X5_isUnder_27 : decode cX5_isUnder 27 = .ok (.iconst 0, 1) := by decide +kernel
theorem d_X5_isUnder_28 : decode cX5_isUnder 28 = .ok (.ireturn, 1) := by decide +kernel
noncomputable def P_X5_isUnder : Nat → Op := fun pc => nd 12 pc (nd 6 pc (nd 2 pc (nd 1 pc (lf 0 pc (oILd 0 1)) (lf 1 pc (oISt 2 2))) (nd 3 pc (lf 2 pc (lockO (oILd 2 3) 0)) (lf 3 pc (oIfLt 19 6)))) (nd 8 pc (nd 7 pc (lf 6 pc (oILd 2 7)) (lf 7 pc (oILd 1 8))) (nd 11 pc (lf 8 pc (oCpEq 19 11)) (lf 11 pc (oILd 2 12))))) (nd 20 pc (nd 16 pc (nd 15 pc (lf 12 pc (oCaS 1 S_X5_above 15)) (lf 15 pc (oISt 2 16))) (nd 19 pc (lf 16 pc (oGo 2)) (lf 19 pc (oILd 2 20)))) (nd 24 pc (nd 23 pc (lf 20 pc (oIfLt 27 23)) (lf 23 pc (oCst 1 24))) (nd 27 pc (lf 24 pc (oGo 28)) (nd 28 pc (lf 27 pc (oCst 0 28)) (lf 28 pc (oZRet))))))
theorem ok_X5_isUnder {l : Launch} {G : Gm} : ∀ pc, OkU (TXm l G (rmD 2) 3 cX5_isUnder RX5) (RXm l G (rmD 2) 3 cX5_isUnder RX5 (some .boolean)) pc (P_X5_isUnder pc) := fun pc => ok_nd (ok_nd (ok_nd (ok_nd (ok_lf (ok_ILdn d_X5_isUnder_0 rfl rfl)) (ok_lf (ok_IStn d_X5_isUnder_1 rfl rfl))) (ok_nd (ok_lf (ok_lk (ok_ILdn d_X5_isUnder_2 rfl rfl))) (ok_lf (ok_IfLt d_X5_isUnder_3 (by decide) rfl)))) (ok_nd (ok_nd (ok_lf (ok_ILdn d_X5_isUnder_6 rfl rfl)) (ok_lf (ok_ILdn d_X5_isUnder_7 rfl rfl))) (ok_nd (ok_lf (ok_CpEq d_X5_isUnder_8 (by decide) rfl)) (ok_lf (ok_ILdn d_X5_isUnder_11 rfl rfl))))) (ok_nd (ok_nd (ok_nd (ok_lf (ok_CaS su_X5_above d_X5_isUnder_12 q1131 q1132 q6 q1133 ⟨by decide +kernel, by decide +kernel, by decide +kernel⟩ ⟨by decide, by decide⟩ rfl)) (ok_lf (ok_IStn d_X5_isUnder_15 rfl rfl))) (ok_nd (ok_lf (ok_Go d_X5_isUnder_16 (by decide))) (ok_lf (ok_ILdn d_X5_isUnder_19 rfl rfl)))) (ok_nd (ok_nd (ok_lf (ok_IfLt d_X5_isUnder_20 (by decide) rfl)) (ok_lf (ok_ICst d_X5_isUnder_23 (by decide) rfl))) (ok_nd (ok_lf (ok_Go d_X5_isUnder_24 (by decide))) (ok_nd (ok_lf (ok_ICst d_X5_isUnder_27 (by decide) rfl)) (ok_lf (ok_ZRet d_X5_isUnder_28))))))
noncomputable def S_X5_isUnder : Sem := lockS (inl P_X5_isUnder 30000 3) 0
theorem su_X5_isUnder {l : Launch} {G : Gm} : SemU l G yX5_isUnder (wsOf yX5_isUnder cX5_isUnder 3 (some .boolean)) 2 S_X5_isUnder := sem_lock (sem_inl 30000 (by decide +kernel) rfl ok_X5_isUnder)
theorem d_X5_as_0 : decode cX5_as 0 = .ok (.iload_n 1, 1) := by decide +kernel
theorem d_X5_as_1 : decode cX5_as 1 = .ok (.invokestatic 303, 3) := by decide +kernel
theorem d_X5_as_4 : decode cX5_as 4 = .ok (.ifCond .eq 10, 3) := by decide +kernel
theorem d_X5_as_7 : decode cX5_as 7 = .ok (.iload_n 2, 1) := by decide +kernel
theorem d_X5_as_8 : decode cX5_as 8 = .ok (.invokestatic 88, 3) := by decide +kernel
theorem d_X5_as_11 : decode cX5_as 11 = .ok (.ifCond .ne 10, 3) := by decide +kernel
theorem d_X5_as_14 : decode cX5_as 14 = .ok (.aload_n 0, 1) := by decide +kernel
theorem d_X5_as_15 : decode cX5_as 15 = .ok (.ldc 60, 2) := by decide +kernel
theorem d_X5_as_17 : decode cX5_as 17 = .ok (.invokevirtual 66, 3) := by decide +kernel
theorem d_X5_as_20 : decode cX5_as 20 = .ok (.ireturn, 1) := by decide +kernel
theorem d_X5_as_21 : decode cX5_as 21 = .ok (.aload_n 0, 1) := by decide +kernel
theorem d_X5_as_22 : decode cX5_as 22 = .ok (.getfield 9, 3) := by decide +kernel
theorem d_X5_as_25 : decode cX5_as 25 = .ok (.bipush 12, 2) := by decide +kernel
theorem d_X5_as_27 : decode cX5_as 27 = .ok (.iload_n 1, 1) := by decide +kernel
theorem d_X5_as_28 : decode cX5_as 28 = .ok (.iadd, 1) := by decide +kernel
theorem d_X5_as_29 : decode cX5_as 29 = .ok (.iaload, 1) := by decide +kernel
theorem d_X5_as_30 : decode cX5_as 30 = .ok (.istore_n 3, 1) := by decide +kernel
theorem d_X5_as_31 : decode cX5_as 31 = .ok (.iload_n 3, 1) := by decide +kernel
theorem d_X5_as_32 : decode cX5_as 32 = .ok (.ifCond .ge 10, 3) := by decide +kernel
theorem d_X5_as_35 : decode cX5_as 35 = .ok (.aload_n 0, 1) := by decide +kernel
theorem d_X5_as_36 : decode cX5_as 36 = .ok (.ldc 202, 2) := by decide +kernel
theorem d_X5_as_38 : decode cX5_as 38 = .ok (.invokevirtual 66, 3) := by decide +kernel
theorem d_X5_as_41 : decode cX5_as 41 = .ok (.ireturn, 1) := by decide +kernel
theorem d_X5_as_42 : decode cX5_as 42 = .ok (.aload_n 0, 1) := by decide +kernel
theorem d_X5_as_43 : decode cX5_as 43 = .ok (.iload_n 3, 1) := by decide +kernel
theorem d_X5_as_44 : decode cX5_as 44 = .ok (.iconst 0, 1) := by decide +kernel
theorem d_X5_as_45 : decode cX5_as 45 = .ok (.invokevirtual 95, 3) := by decide +kernel
theorem d_X5_as_48 : decode cX5_as 48 = .ok (.iload_n 2, 1) := by decide +kernel
theorem d_X5_as_49 : decode cX5_as 49 = .ok (.invokestatic 306, 3) := by decide +kernel
theorem d_X5_as_52 : decode cX5_as 52 = .ok (.ifCond .eq 7, 3) := by decide +kernel
theorem d_X5_as_55 : decode cX5_as 55 = .ok (.iload_n 3, 1) := by decide +kernel
theorem d_X5_as_56 : decode cX5_as 56 = .ok (.goto 10, 3) := by decide +kernel
theorem d_X5_as_59 : decode cX5_as 59 = .ok (.aload_n 0, 1) := by decide +kernel
theorem d_X5_as_60 : decode cX5_as 60 = .ok (.ldc_w 309, 3) := by decide +kernel
theorem d_X5_as_63 : decode cX5_as 63 = .ok (.invokevirtual 66, 3) := by decide +kernel
theorem d_X5_as_66 : decode cX5_as 66 = .ok (.ireturn, 1) := by decide +kernel
noncomputable def P_X5_as : Nat → Op := fun pc => nd 32 pc (nd 20 pc (nd 8 pc (nd 4 pc (nd 1 pc (lf 0 pc (oILd 1 1)) (lf 1 pc (oCaS 1 S_X5_isSpot 4))) (nd 7 pc (lf 4 pc (oIfEq 14 7)) (lf 7 pc (oILd 2 8)))) (nd 14 pc (nd 11 pc (lf 8 pc (oCaS 1 S_X5_isKind 11)) (lf 11 pc (oIfEq 14 21))) (nd 15 pc (lf 14 pc (oALd 0 15)) (nd 17 pc (lf 15 pc (oCst (-1000001) 17)) (lf 17 pc (oCaV 2 5 S_X5_finding 20)))))) (nd 27 pc (nd 22 pc (nd 21 pc (lf 20 pc (oIRet)) (lf 21 pc (oALd 0 22))) (nd 25 pc (lf 22 pc (oGetR 5 0 25)) (lf 25 pc (oCst 12 27)))) (nd 29 pc (nd 28 pc (lf 27 pc (oILd 1 28)) (lf 28 pc (oBin (fun x y => x + y) 29))) (nd 30 pc (lf 29 pc (oIAL 30)) (nd 31 pc (lf 30 pc (oISt 3 31)) (lf 31 pc (oILd 3 32))))))) (nd 48 pc (nd 41 pc (nd 36 pc (nd 35 pc (lf 32 pc (oIfLt 35 42)) (lf 35 pc (oALd 0 36))) (nd 38 pc (lf 36 pc (oCst (-1000006) 38)) (lf 38 pc (oCaV 2 5 S_X5_finding 41)))) (nd 43 pc (nd 42 pc (lf 41 pc (oIRet)) (lf 42 pc (oALd 0 43))) (nd 44 pc (lf 43 pc (oILd 3 44)) (nd 45 pc (lf 44 pc (oCst 0 45)) (lf 45 pc (oCaV 3 5 S_X5_disputantIs 48)))))) (nd 56 pc (nd 52 pc (nd 49 pc (lf 48 pc (oILd 2 49)) (lf 49 pc (oCaS 2 S_X5_isUnder 52))) (nd 55 pc (lf 52 pc (oIfEq 59 55)) (lf 55 pc (oILd 3 56)))) (nd 60 pc (nd 59 pc (lf 56 pc (oGo 66)) (lf 59 pc (oALd 0 60))) (nd 63 pc (lf 60 pc (oCst (-1000003) 63)) (nd 66 pc (lf 63 pc (oCaV 2 5 S_X5_finding 66)) (lf 66 pc (oIRet)))))))
theorem ok_X5_as {l : Launch} {G : Gm} : ∀ pc, OkU (TXm l G (rmD 3) 4 cX5_as RX5) (RXm l G (rmD 3) 4 cX5_as RX5 (some .int)) pc (P_X5_as pc) := fun pc => ok_nd (ok_nd (ok_nd (ok_nd (ok_nd (ok_lf (ok_ILdn d_X5_as_0 rfl rfl)) (ok_lf (ok_CaS su_X5_isSpot d_X5_as_1 q1121 q1122 q6 q1123 ⟨by decide +kernel, by decide +kernel, by decide +kernel⟩ ⟨by decide, by decide⟩ rfl))) (ok_nd (ok_lf (ok_IfEq d_X5_as_4 (by decide) rfl)) (ok_lf (ok_ILdn d_X5_as_7 rfl rfl)))) (ok_nd (ok_nd (ok_lf (ok_CaS su_X5_isKind d_X5_as_8 q808 q809 q6 q810 ⟨by decide +kernel, by decide +kernel, by decide +kernel⟩ ⟨by decide, by decide⟩ rfl)) (ok_lf (ok_IfNe d_X5_as_11 (by decide) rfl))) (ok_nd (ok_lf (ok_ALdn d_X5_as_14 rfl rfl)) (ok_nd (ok_lf (ok_Ldc d_X5_as_15 q781 rfl)) (ok_lf (ok_CaV su_X5_finding (by decide) rfl d_X5_as_17 q782 q784 z56 q6 q785 ⟨by decide +kernel, by decide +kernel, by decide +kernel⟩ ⟨by decide, by decide⟩ rfl)))))) (ok_nd (ok_nd (ok_nd (ok_lf (ok_IRet d_X5_as_20)) (ok_lf (ok_ALdn d_X5_as_21 rfl rfl))) (ok_nd (ok_lf (ok_GetR (by decide) (by decide) rfl d_X5_as_22 q703 rfl)) (ok_lf (ok_BCst d_X5_as_25 (by decide) rfl)))) (ok_nd (ok_nd (ok_lf (ok_ILdn d_X5_as_27 rfl rfl)) (ok_lf (ok_iadd d_X5_as_28 rfl))) (ok_nd (ok_lf (ok_IAL d_X5_as_29 rfl)) (ok_nd (ok_lf (ok_IStn d_X5_as_30 rfl rfl)) (ok_lf (ok_ILdn d_X5_as_31 rfl rfl))))))) (ok_nd (ok_nd (ok_nd (ok_nd (ok_lf (ok_IfGe d_X5_as_32 (by decide) rfl)) (ok_lf (ok_ALdn d_X5_as_35 rfl rfl))) (ok_nd (ok_lf (ok_Ldc d_X5_as_36 q1019 rfl)) (ok_lf (ok_CaV su_X5_finding (by decide) rfl d_X5_as_38 q782 q784 z56 q6 q785 ⟨by decide +kernel, by decide +kernel, by decide +kernel⟩ ⟨by decide, by decide⟩ rfl)))) (ok_nd (ok_nd (ok_lf (ok_IRet d_X5_as_41)) (ok_lf (ok_ALdn d_X5_as_42 rfl rfl))) (ok_nd (ok_lf (ok_ILdn d_X5_as_43 rfl rfl)) (ok_nd (ok_lf (ok_ICst d_X5_as_44 (by decide) rfl)) (ok_lf (ok_CaV su_X5_disputantIs (by decide) rfl d_X5_as_45 q835 q837 z61 q6 q838 ⟨by decide +kernel, by decide +kernel, by decide +kernel⟩ ⟨by decide, by decide⟩ rfl)))))) (ok_nd (ok_nd (ok_nd (ok_lf (ok_ILdn d_X5_as_48 rfl rfl)) (ok_lf (ok_CaS su_X5_isUnder d_X5_as_49 q1128 q1129 q6 q1130 ⟨by decide +kernel, by decide +kernel, by decide +kernel⟩ ⟨by decide, by decide⟩ rfl))) (ok_nd (ok_lf (ok_IfEq d_X5_as_52 (by decide) rfl)) (ok_lf (ok_ILdn d_X5_as_55 rfl rfl)))) (ok_nd (ok_nd (ok_lf (ok_Go d_X5_as_56 (by decide))) (ok_lf (ok_ALdn d_X5_as_59 rfl rfl))) (ok_nd (ok_lf (ok_LdcW d_X5_as_60 q1134 rfl)) (ok_nd (ok_lf (ok_CaV su_X5_finding (by decide) rfl d_X5_as_63 q782 q784 z56 q6 q785 ⟨by decide +kernel, by decide +kernel, by decide +kernel⟩ ⟨by decide, by decide⟩ rfl)) (ok_lf (ok_IRet d_X5_as_66)))))))
noncomputable def S_X5_as : Sem := lockS (inl P_X5_as 38 4) 0
theorem su_X5_as {l : Launch} {G : Gm} : SemU l G yX5_as (wsOf yX5_as cX5_as 4 (some .int)) 3 S_X5_as := sem_lock (sem_inl 38 (by decide +kernel) rfl ok_X5_as)
theorem d_X5_cutTo_0 : decode cX5_cutTo 0 = .ok (.iload_n 1, 1) := by decide +kernel
theorem d_X5_cutTo_1 : decode cX5_cutTo 1 = .ok (.bipush 8, 2) := by decide +kernel
theorem d_X5_cutTo_3 : decode cX5_cutTo 3 = .ok (.if_icmp .ne 8, 3) := by decide +kernel
theorem d_X5_cutTo_6 : decode cX5_cutTo 6 = .ok (.iload_n 0, 1) := by decide +kernel
theorem d_X5_cutTo_7 : decode cX5_cutTo 7 = .ok (.i2b, 1) := by decide +kernel
theorem d_X5_cutTo_8 : decode cX5_cutTo 8 = .ok (.goto 15, 3) := by decide +kernel
theorem d_X5_cutTo_11 : decode cX5_cutTo 11 = .ok (.iload_n 1, 1) := by decide +kernel
theorem d_X5_cutTo_12 : decode cX5_cutTo 12 = .ok (.bipush 16, 2) := by decide +kernel
theorem d_X5_cutTo_14 : decode cX5_cutTo 14 = .ok (.if_icmp .ne 8, 3) := by decide +kernel
theorem d_X5_cutTo_17 : decode cX5_cutTo 17 = .ok (.iload_n 0, 1) := by decide +kernel
theorem d_X5_cutTo_18 : decode cX5_cutTo 18 = .ok (.i2s, 1) := by decide +kernel
theorem d_X5_cutTo_19 : decode cX5_cutTo 19 = .ok (.goto 4, 3) := by decide +kernel
theorem d_X5_cutTo_22 : decode cX5_cutTo 22 = .ok (.iload_n 0, 1) := by decide +kernel
theorem d_X5_cutTo_23 : decode cX5_cutTo 23 = .ok (.ireturn, 1) := by decide +kernel
noncomputable def P_X5_cutTo : Nat → Op := fun pc => nd 12 pc (nd 6 pc (nd 1 pc (lf 0 pc (oILd 1 1)) (nd 3 pc (lf 1 pc (oCst 8 3)) (lf 3 pc (oCpEq 6 11)))) (nd 8 pc (nd 7 pc (lf 6 pc (oILd 0 7)) (lf 7 pc (oUn (fun x => x.toInt8.toInt32) 8))) (nd 11 pc (lf 8 pc (oGo 23)) (lf 11 pc (oILd 1 12))))) (nd 18 pc (nd 14 pc (lf 12 pc (oCst 16 14)) (nd 17 pc (lf 14 pc (oCpEq 17 22)) (lf 17 pc (oILd 0 18)))) (nd 22 pc (nd 19 pc (lf 18 pc (oUn (fun x => x.toInt16.toInt32) 19)) (lf 19 pc (oGo 23))) (nd 23 pc (lf 22 pc (oILd 0 23)) (lf 23 pc (oIRet)))))
theorem ok_X5_cutTo {l : Launch} {G : Gm} : ∀ pc, OkU (TXm l G (rmD 1) 2 cX5_cutTo RX5) (RXm l G (rmD 1) 2 cX5_cutTo RX5 (some .int)) pc (P_X5_cutTo pc) := fun pc => ok_nd (ok_nd (ok_nd (ok_lf (ok_ILdn d_X5_cutTo_0 rfl rfl)) (ok_nd (ok_lf (ok_BCst d_X5_cutTo_1 (by decide) rfl)) (ok_lf (ok_CpNe d_X5_cutTo_3 (by decide) rfl)))) (ok_nd (ok_nd (ok_lf (ok_ILdn d_X5_cutTo_6 rfl rfl)) (ok_lf (ok_i2b d_X5_cutTo_7 rfl))) (ok_nd (ok_lf (ok_Go d_X5_cutTo_8 (by decide))) (ok_lf (ok_ILdn d_X5_cutTo_11 rfl rfl))))) (ok_nd (ok_nd (ok_lf (ok_BCst d_X5_cutTo_12 (by decide) rfl)) (ok_nd (ok_lf (ok_CpNe d_X5_cutTo_14 (by decide) rfl)) (ok_lf (ok_ILdn d_X5_cutTo_17 rfl rfl)))) (ok_nd (ok_nd (ok_lf (ok_i2s d_X5_cutTo_18 rfl)) (ok_lf (ok_Go d_X5_cutTo_19 (by decide)))) (ok_nd (ok_lf (ok_ILdn d_X5_cutTo_22 rfl rfl)) (ok_lf (ok_IRet d_X5_cutTo_23)))))
noncomputable def S_X5_cutTo : Sem := inl P_X5_cutTo 16 2
theorem su_X5_cutTo {l : Launch} {G : Gm} : SemU l G yX5_cutTo (wsOf yX5_cutTo cX5_cutTo 2 (some .int)) 1 S_X5_cutTo := sem_inl 16 (by decide +kernel) rfl ok_X5_cutTo
theorem d_X5_sheet_0 : decode cX5_sheet 0 = .ok (.iload_n 1, 1) := by decide +kernel
theorem d_X5_sheet_1 : decode cX5_sheet 1 = .ok (.invokestatic 199, 3) := by decide +kernel
theorem d_X5_sheet_4 : decode cX5_sheet 4 = .ok (.ifCond .eq 25, 3) := by decide +kernel
theorem d_X5_sheet_7 : decode cX5_sheet 7 = .ok (.iload_n 2, 1) := by decide +kernel
theorem d_X5_sheet_8 : decode cX5_sheet 8 = .ok (.ifCond .eq 28, 3) := by decide +kernel
theorem d_X5_sheet_11 : decode cX5_sheet 11 = .ok (.iload_n 2, 1) := by decide +kernel
theorem d_X5_sheet_12 : decode cX5_sheet 12 = .ok (.bipush 8, 2) := by decide +kernel
theorem d_X5_sheet_14 : decode cX5_sheet 14 = .ok (.if_icmp .eq 22, 3) := by decide +kernel
theorem d_X5_sheet_17 : decode cX5_sheet 17 = .ok (.iload_n 2, 1) := by decide +kernel
theorem d_X5_sheet_18 : decode cX5_sheet 18 = .ok (.bipush 16, 2) := by decide +kernel
theorem d_X5_sheet_20 : decode cX5_sheet 20 = .ok (.if_icmp .eq 16, 3) := by decide +kernel
theorem d_X5_sheet_23 : decode cX5_sheet 23 = .ok (.iload_n 2, 1) := by decide +kernel
theorem d_X5_sheet_24 : decode cX5_sheet 24 = .ok (.bipush 32, 2) := by decide +kernel
theorem d_X5_sheet_26 : decode cX5_sheet 26 = .ok (.if_icmp .eq 10, 3) := by decide +kernel
theorem d_X5_sheet_29 : decode cX5_sheet 29 = .ok (.aload_n 0, 1) := by decide +kernel
theorem d_X5_sheet_30 : decode cX5_sheet 30 = .ok (.ldc 60, 2) := by decide +kernel
theorem d_X5_sheet_32 : decode cX5_sheet 32 = .ok (.invokevirtual 66, 3) := by decide +kernel
theorem d_X5_sheet_35 : decode cX5_sheet 35 = .ok (.ireturn, 1) := by decide +kernel
theorem d_X5_sheet_36 : decode cX5_sheet 36 = .ok (.iload_n 3, 1) := by decide +kernel
theorem d_X5_sheet_37 : decode cX5_sheet 37 = .ok (.ifCond .ge 11, 3) := by decide +kernel
theorem d_X5_sheet_40 : decode cX5_sheet 40 = .ok (.aload_n 0, 1) := by decide +kernel
theorem d_X5_sheet_41 : decode cX5_sheet 41 = .ok (.ldc_w 310, 3) := by decide +kernel
theorem d_X5_sheet_44 : decode cX5_sheet 44 = .ok (.invokevirtual 66, 3) := by decide +kernel
theorem d_X5_sheet_47 : decode cX5_sheet 47 = .ok (.ireturn, 1) := by decide +kernel
theorem d_X5_sheet_48 : decode cX5_sheet 48 = .ok (.iload_n 3, 1) := by decide +kernel
theorem d_X5_sheet_49 : decode cX5_sheet 49 = .ok (.bipush 40, 2) := by decide +kernel
theorem d_X5_sheet_51 : decode cX5_sheet 51 = .ok (.if_icmp .le 10, 3) := by decide +kernel
theorem d_X5_sheet_54 : decode cX5_sheet 54 = .ok (.aload_n 0, 1) := by decide +kernel
theorem d_X5_sheet_55 : decode cX5_sheet 55 = .ok (.ldc 60, 2) := by decide +kernel
theorem d_X5_sheet_57 : decode cX5_sheet 57 = .ok (.invokevirtual 66, 3) := by decide +kernel
theorem d_X5_sheet_60 : decode cX5_sheet 60 = .ok (.ireturn, 1) := by decide +kernel
theorem d_X5_sheet_61 : decode cX5_sheet 61 = .ok (.aload_n 0, 1) := by decide +kernel
theorem d_X5_sheet_62 : decode cX5_sheet 62 = .ok (.getfield 48, 3) := by decide +kernel
theorem d_X5_sheet_65 : decode cX5_sheet 65 = .ok (.iload_n 1, 1) := by decide +kernel
theorem d_X5_sheet_66 : decode cX5_sheet 66 = .ok (.iload_n 2, 1) := by decide +kernel
theorem d_X5_sheet_67 : decode cX5_sheet 67 = .ok (.iastore, 1) := by decide +kernel
theorem d_X5_sheet_68 : decode cX5_sheet 68 = .ok (.aload_n 0, 1) := by decide +kernel
theorem d_X5_sheet_69 : decode cX5_sheet 69 = .ok (.getfield 51, 3) := by decide +kernel
theorem d_X5_sheet_72 : decode cX5_sheet 72 = .ok (.iload_n 1, 1) := by decide +kernel
theorem d_X5_sheet_73 : decode cX5_sheet 73 = .ok (.iload_n 2, 1) := by decide +kernel
theorem d_X5_sheet_74 : decode cX5_sheet 74 = .ok (.ifCond .ne 7, 3) := by decide +kernel
theorem d_X5_sheet_77 : decode cX5_sheet 77 = .ok (.iconst 0, 1) := by decide +kernel
theorem d_X5_sheet_78 : decode cX5_sheet 78 = .ok (.goto 4, 3) := by decide +kernel
theorem d_X5_sheet_81 : decode cX5_sheet 81 = .ok (.iload_n 3, 1) := by decide +kernel
theorem d_X5_sheet_82 : decode cX5_sheet 82 = .ok (.iastore, 1) := by decide +kernel
theorem d_X5_sheet_83 : decode cX5_sheet 83 = .ok (.iconst 0, 1) := by decide +kernel
theorem d_X5_sheet_84 : decode cX5_sheet 84 = .ok (.istore 4, 2) := by decide +kernel
theorem d_X5_sheet_86 : decode cX5_sheet 86 = .ok (.iload 4, 2) := by decide +kernel
theorem d_X5_sheet_88 : decode cX5_sheet 88 = .ok (.bipush 40, 2) := by decide +kernel
theorem d_X5_sheet_90 : decode cX5_sheet 90 = .ok (.if_icmp .ge 22, 3) := by decide +kernel
theorem d_X5_sheet_93 : decode cX5_sheet 93 = .ok (.aload_n 0, 1) := by decide +kernel
theorem d_X5_sheet_94 : decode cX5_sheet 94 = .ok (.getfield 54, 3) := by decide +kernel
theorem d_X5_sheet_97 : decode cX5_sheet 97 = .ok (.bipush 40, 2) := by decide +kernel
theorem d_X5_sheet_99 : decode cX5_sheet 99 = .ok (.iload_n 1, 1) := by decide +kernel
theorem d_X5_sheet_100 : decode cX5_sheet 100 = .ok (.imul, 1) := by decide +kernel
theorem d_X5_sheet_101 : decode cX5_sheet 101 = .ok (.iload 4, 2) := by decide +kernel
theorem d_X5_sheet_103 : decode cX5_sheet 103 = .ok (.iadd, 1) := by decide +kernel
theorem d_X5_sheet_104 : decode cX5_sheet 104 = .ok (.iconst 0, 1) := by decide +kernel
theorem d_X5_sheet_105 : decode cX5_sheet 105 = .ok (.iastore, 1) := by decide +kernel
theorem d_X5_sheet_106 : decode cX5_sheet 106 = .ok (.iinc 4 1, 3) := by decide +kernel
theorem d_X5_sheet_109 : decode cX5_sheet 109 = .ok (.goto (-23), 3) := by decide +kernel
theorem d_X5_sheet_112 : decode cX5_sheet 112 = .ok (.aload_n 0, 1) := by decide +kernel
theorem d_X5_sheet_113 : decode cX5_sheet 113 = .ok (.getfield 51, 3) := by decide +kernel
theorem d_X5_sheet_116 : decode cX5_sheet 116 = .ok (.iload_n 1, 1) := by decide +kernel
theorem d_X5_sheet_117 : decode cX5_sheet 117 = .ok (.iaload, 1) := by decide +kernel
theorem d_X5_sheet_118 : decode cX5_sheet 118 = .ok (.ireturn, 1) := by decide +kernel
noncomputable def P_X5_sheet : Nat → Op := fun pc => nd 65 pc (nd 32 pc (nd 17 pc (nd 8 pc (nd 4 pc (nd 1 pc (lf 0 pc (oILd 1 1)) (lf 1 pc (oCaS 1 S_X5_isSheet 4))) (nd 7 pc (lf 4 pc (oIfEq 29 7)) (lf 7 pc (oILd 2 8)))) (nd 12 pc (nd 11 pc (lf 8 pc (oIfEq 36 11)) (lf 11 pc (oILd 2 12))) (nd 14 pc (lf 12 pc (oCst 8 14)) (lf 14 pc (oCpEq 36 17))))) (nd 24 pc (nd 20 pc (nd 18 pc (lf 17 pc (oILd 2 18)) (lf 18 pc (oCst 16 20))) (nd 23 pc (lf 20 pc (oCpEq 36 23)) (lf 23 pc (oILd 2 24)))) (nd 29 pc (nd 26 pc (lf 24 pc (oCst 32 26)) (lf 26 pc (oCpEq 36 29))) (nd 30 pc (lf 29 pc (oALd 0 30)) (lf 30 pc (oCst (-1000001) 32)))))) (nd 48 pc (nd 40 pc (nd 36 pc (nd 35 pc (lf 32 pc (oCaV 2 5 S_X5_finding 35)) (lf 35 pc (oIRet))) (nd 37 pc (lf 36 pc (oILd 3 37)) (lf 37 pc (oIfLt 40 48)))) (nd 44 pc (nd 41 pc (lf 40 pc (oALd 0 41)) (lf 41 pc (oCst (-1000007) 44))) (nd 47 pc (lf 44 pc (oCaV 2 5 S_X5_finding 47)) (lf 47 pc (oIRet))))) (nd 55 pc (nd 51 pc (nd 49 pc (lf 48 pc (oILd 3 49)) (lf 49 pc (oCst 40 51))) (nd 54 pc (lf 51 pc (oCpGt 54 61)) (lf 54 pc (oALd 0 55)))) (nd 60 pc (nd 57 pc (lf 55 pc (oCst (-1000001) 57)) (lf 57 pc (oCaV 2 5 S_X5_finding 60))) (nd 61 pc (lf 60 pc (oIRet)) (nd 62 pc (lf 61 pc (oALd 0 62)) (lf 62 pc (oGetR 5 18 65)))))))) (nd 90 pc (nd 77 pc (nd 69 pc (nd 67 pc (nd 66 pc (lf 65 pc (oILd 1 66)) (lf 66 pc (oILd 2 67))) (nd 68 pc (lf 67 pc (oIAS 68)) (lf 68 pc (oALd 0 69)))) (nd 73 pc (nd 72 pc (lf 69 pc (oGetR 5 19 72)) (lf 72 pc (oILd 1 73))) (nd 74 pc (lf 73 pc (oILd 2 74)) (lf 74 pc (oIfEq 77 81))))) (nd 83 pc (nd 81 pc (nd 78 pc (lf 77 pc (oCst 0 78)) (lf 78 pc (oGo 82))) (nd 82 pc (lf 81 pc (oILd 3 82)) (lf 82 pc (oIAS 83)))) (nd 86 pc (nd 84 pc (lf 83 pc (oCst 0 84)) (lf 84 pc (oISt 4 86))) (nd 88 pc (lf 86 pc (lockO (oILd 4 88) 0)) (lf 88 pc (oCst 40 90)))))) (nd 104 pc (nd 99 pc (nd 94 pc (nd 93 pc (lf 90 pc (oCpLt 93 112)) (lf 93 pc (oALd 0 94))) (nd 97 pc (lf 94 pc (oGetR 5 20 97)) (lf 97 pc (oCst 40 99)))) (nd 101 pc (nd 100 pc (lf 99 pc (oILd 1 100)) (lf 100 pc (oBin (fun x y => x * y) 101))) (nd 103 pc (lf 101 pc (oILd 4 103)) (lf 103 pc (oBin (fun x y => x + y) 104))))) (nd 112 pc (nd 106 pc (nd 105 pc (lf 104 pc (oCst 0 105)) (lf 105 pc (oIAS 106))) (nd 109 pc (lf 106 pc (oInc 4 1 109)) (lf 109 pc (oGo 86)))) (nd 116 pc (nd 113 pc (lf 112 pc (oALd 0 113)) (lf 113 pc (oGetR 5 19 116))) (nd 117 pc (lf 116 pc (oILd 1 117)) (nd 118 pc (lf 117 pc (oIAL 118)) (lf 118 pc (oIRet))))))))
theorem ok_X5_sheet {l : Launch} {G : Gm} : ∀ pc, OkU (TXm l G (rmD 3) 5 cX5_sheet RX5) (RXm l G (rmD 3) 5 cX5_sheet RX5 (some .int)) pc (P_X5_sheet pc) := fun pc => ok_nd (ok_nd (ok_nd (ok_nd (ok_nd (ok_nd (ok_lf (ok_ILdn d_X5_sheet_0 rfl rfl)) (ok_lf (ok_CaS su_X5_isSheet d_X5_sheet_1 q1016 q1017 q6 q1018 ⟨by decide +kernel, by decide +kernel, by decide +kernel⟩ ⟨by decide, by decide⟩ rfl))) (ok_nd (ok_lf (ok_IfEq d_X5_sheet_4 (by decide) rfl)) (ok_lf (ok_ILdn d_X5_sheet_7 rfl rfl)))) (ok_nd (ok_nd (ok_lf (ok_IfEq d_X5_sheet_8 (by decide) rfl)) (ok_lf (ok_ILdn d_X5_sheet_11 rfl rfl))) (ok_nd (ok_lf (ok_BCst d_X5_sheet_12 (by decide) rfl)) (ok_lf (ok_CpEq d_X5_sheet_14 (by decide) rfl))))) (ok_nd (ok_nd (ok_nd (ok_lf (ok_ILdn d_X5_sheet_17 rfl rfl)) (ok_lf (ok_BCst d_X5_sheet_18 (by decide) rfl))) (ok_nd (ok_lf (ok_CpEq d_X5_sheet_20 (by decide) rfl)) (ok_lf (ok_ILdn d_X5_sheet_23 rfl rfl)))) (ok_nd (ok_nd (ok_lf (ok_BCst d_X5_sheet_24 (by decide) rfl)) (ok_lf (ok_CpEq d_X5_sheet_26 (by decide) rfl))) (ok_nd (ok_lf (ok_ALdn d_X5_sheet_29 rfl rfl)) (ok_lf (ok_Ldc d_X5_sheet_30 q781 rfl)))))) (ok_nd (ok_nd (ok_nd (ok_nd (ok_lf (ok_CaV su_X5_finding (by decide) rfl d_X5_sheet_32 q782 q784 z56 q6 q785 ⟨by decide +kernel, by decide +kernel, by decide +kernel⟩ ⟨by decide, by decide⟩ rfl)) (ok_lf (ok_IRet d_X5_sheet_35))) (ok_nd (ok_lf (ok_ILdn d_X5_sheet_36 rfl rfl)) (ok_lf (ok_IfGe d_X5_sheet_37 (by decide) rfl)))) (ok_nd (ok_nd (ok_lf (ok_ALdn d_X5_sheet_40 rfl rfl)) (ok_lf (ok_LdcW d_X5_sheet_41 q1139 rfl))) (ok_nd (ok_lf (ok_CaV su_X5_finding (by decide) rfl d_X5_sheet_44 q782 q784 z56 q6 q785 ⟨by decide +kernel, by decide +kernel, by decide +kernel⟩ ⟨by decide, by decide⟩ rfl)) (ok_lf (ok_IRet d_X5_sheet_47))))) (ok_nd (ok_nd (ok_nd (ok_lf (ok_ILdn d_X5_sheet_48 rfl rfl)) (ok_lf (ok_BCst d_X5_sheet_49 (by decide) rfl))) (ok_nd (ok_lf (ok_CpLe d_X5_sheet_51 (by decide) rfl)) (ok_lf (ok_ALdn d_X5_sheet_54 rfl rfl)))) (ok_nd (ok_nd (ok_lf (ok_Ldc d_X5_sheet_55 q781 rfl)) (ok_lf (ok_CaV su_X5_finding (by decide) rfl d_X5_sheet_57 q782 q784 z56 q6 q785 ⟨by decide +kernel, by decide +kernel, by decide +kernel⟩ ⟨by decide, by decide⟩ rfl))) (ok_nd (ok_lf (ok_IRet d_X5_sheet_60)) (ok_nd (ok_lf (ok_ALdn d_X5_sheet_61 rfl rfl)) (ok_lf (ok_GetR (by decide) (by decide) rfl d_X5_sheet_62 q721 rfl)))))))) (ok_nd (ok_nd (ok_nd (ok_nd (ok_nd (ok_lf (ok_ILdn d_X5_sheet_65 rfl rfl)) (ok_lf (ok_ILdn d_X5_sheet_66 rfl rfl))) (ok_nd (ok_lf (ok_IAS d_X5_sheet_67 rfl)) (ok_lf (ok_ALdn d_X5_sheet_68 rfl rfl)))) (ok_nd (ok_nd (ok_lf (ok_GetR (by decide) (by decide) rfl d_X5_sheet_69 q722 rfl)) (ok_lf (ok_ILdn d_X5_sheet_72 rfl rfl))) (ok_nd (ok_lf (ok_ILdn d_X5_sheet_73 rfl rfl)) (ok_lf (ok_IfNe d_X5_sheet_74 (by decide) rfl))))) (ok_nd (ok_nd (ok_nd (ok_lf (ok_ICst d_X5_sheet_77 (by decide) rfl)) (ok_lf (ok_Go d_X5_sheet_78 (by decide)))) (ok_nd (ok_lf (ok_ILdn d_X5_sheet_81 rfl rfl)) (ok_lf (ok_IAS d_X5_sheet_82 rfl)))) (ok_nd (ok_nd (ok_lf (ok_ICst d_X5_sheet_83 (by decide) rfl)) (ok_lf (ok_ISt d_X5_sheet_84 rfl))) (ok_nd (ok_lf (ok_lk (ok_ILd d_X5_sheet_86 rfl))) (ok_lf (ok_BCst d_X5_sheet_88 (by decide) rfl)))))) (ok_nd (ok_nd (ok_nd (ok_nd (ok_lf (ok_CpGe d_X5_sheet_90 (by decide) rfl)) (ok_lf (ok_ALdn d_X5_sheet_93 rfl rfl))) (ok_nd (ok_lf (ok_GetR (by decide) (by decide) rfl d_X5_sheet_94 q723 rfl)) (ok_lf (ok_BCst d_X5_sheet_97 (by decide) rfl)))) (ok_nd (ok_nd (ok_lf (ok_ILdn d_X5_sheet_99 rfl rfl)) (ok_lf (ok_imul d_X5_sheet_100 rfl))) (ok_nd (ok_lf (ok_ILd d_X5_sheet_101 rfl)) (ok_lf (ok_iadd d_X5_sheet_103 rfl))))) (ok_nd (ok_nd (ok_nd (ok_lf (ok_ICst d_X5_sheet_104 (by decide) rfl)) (ok_lf (ok_IAS d_X5_sheet_105 rfl))) (ok_nd (ok_lf (ok_Inc d_X5_sheet_106 (by decide) rfl)) (ok_lf (ok_Go d_X5_sheet_109 (by decide))))) (ok_nd (ok_nd (ok_lf (ok_ALdn d_X5_sheet_112 rfl rfl)) (ok_lf (ok_GetR (by decide) (by decide) rfl d_X5_sheet_113 q722 rfl))) (ok_nd (ok_lf (ok_ILdn d_X5_sheet_116 rfl rfl)) (ok_nd (ok_lf (ok_IAL d_X5_sheet_117 rfl)) (ok_lf (ok_IRet d_X5_sheet_118))))))))
noncomputable def S_X5_sheet : Sem := lockS (inl P_X5_sheet 30000 5) 0
theorem su_X5_sheet {l : Launch} {G : Gm} : SemU l G yX5_sheet (wsOf yX5_sheet cX5_sheet 5 (some .int)) 3 S_X5_sheet := sem_lock (sem_inl 30000 (by decide +kernel) rfl ok_X5_sheet)
theorem d_X5_write_0 : decode cX5_write 0 = .ok (.iload_n 1, 1) := by decide +kernel
theorem d_X5_write_1 : decode cX5_write 1 = .ok (.invokestatic 199, 3) := by decide +kernel
theorem d_X5_write_4 : decode cX5_write 4 = .ok (.ifCond .ne 10, 3) := by decide +kernel
theorem d_X5_write_7 : decode cX5_write 7 = .ok (.aload_n 0, 1) := by decide +kernel
theorem d_X5_write_8 : decode cX5_write 8 = .ok (.ldc 60, 2) := by decide +kernel
theorem d_X5_write_10 : decode cX5_write 10 = .ok (.invokevirtual 66, 3) := by decide +kernel
theorem d_X5_write_13 : decode cX5_write 13 = .ok (.ireturn, 1) := by decide +kernel
theorem d_X5_write_14 : decode cX5_write 14 = .ok (.aload_n 0, 1) := by decide +kernel
theorem d_X5_write_15 : decode cX5_write 15 = .ok (.getfield 48, 3) := by decide +kernel
theorem d_X5_write_18 : decode cX5_write 18 = .ok (.iload_n 1, 1) := by decide +kernel
theorem d_X5_write_19 : decode cX5_write 19 = .ok (.iaload, 1) := by decide +kernel
theorem d_X5_write_20 : decode cX5_write 20 = .ok (.ifCond .ne 10, 3) := by decide +kernel
theorem d_X5_write_23 : decode cX5_write 23 = .ok (.aload_n 0, 1) := by decide +kernel
theorem d_X5_write_24 : decode cX5_write 24 = .ok (.ldc 202, 2) := by decide +kernel
theorem d_X5_write_26 : decode cX5_write 26 = .ok (.invokevirtual 66, 3) := by decide +kernel
theorem d_X5_write_29 : decode cX5_write 29 = .ok (.ireturn, 1) := by decide +kernel
theorem d_X5_write_30 : decode cX5_write 30 = .ok (.iload_n 2, 1) := by decide +kernel
theorem d_X5_write_31 : decode cX5_write 31 = .ok (.iconst 0, 1) := by decide +kernel
theorem d_X5_write_32 : decode cX5_write 32 = .ok (.aload_n 0, 1) := by decide +kernel
theorem d_X5_write_33 : decode cX5_write 33 = .ok (.getfield 51, 3) := by decide +kernel
theorem d_X5_write_36 : decode cX5_write 36 = .ok (.iload_n 1, 1) := by decide +kernel
theorem d_X5_write_37 : decode cX5_write 37 = .ok (.iaload, 1) := by decide +kernel
theorem d_X5_write_38 : decode cX5_write 38 = .ok (.iconst 1, 1) := by decide +kernel
theorem d_X5_write_39 : decode cX5_write 39 = .ok (.isub, 1) := by decide +kernel
theorem d_X5_write_40 : decode cX5_write 40 = .ok (.invokestatic 70, 3) := by decide +kernel
theorem d_X5_write_43 : decode cX5_write 43 = .ok (.ifCond .ne 10, 3) := by decide +kernel
theorem d_X5_write_46 : decode cX5_write 46 = .ok (.aload_n 0, 1) := by decide +kernel
theorem d_X5_write_47 : decode cX5_write 47 = .ok (.ldc 60, 2) := by decide +kernel
theorem d_X5_write_49 : decode cX5_write 49 = .ok (.invokevirtual 66, 3) := by decide +kernel
theorem d_X5_write_52 : decode cX5_write 52 = .ok (.ireturn, 1) := by decide +kernel
theorem d_X5_write_53 : decode cX5_write 53 = .ok (.aload_n 0, 1) := by decide +kernel
theorem d_X5_write_54 : decode cX5_write 54 = .ok (.getfield 54, 3) := by decide +kernel
theorem d_X5_write_57 : decode cX5_write 57 = .ok (.bipush 40, 2) := by decide +kernel
theorem d_X5_write_59 : decode cX5_write 59 = .ok (.iload_n 1, 1) := by decide +kernel
theorem d_X5_write_60 : decode cX5_write 60 = .ok (.imul, 1) := by decide +kernel
theorem d_X5_write_61 : decode cX5_write 61 = .ok (.iload_n 2, 1) := by decide +kernel
theorem d_X5_write_62 : decode cX5_write 62 = .ok (.iadd, 1) := by decide +kernel
theorem d_X5_write_63 : decode cX5_write 63 = .ok (.iload_n 3, 1) := by decide +kernel
theorem d_X5_write_64 : decode cX5_write 64 = .ok (.aload_n 0, 1) := by decide +kernel
theorem d_X5_write_65 : decode cX5_write 65 = .ok (.getfield 48, 3) := by decide +kernel
theorem d_X5_write_68 : decode cX5_write 68 = .ok (.iload_n 1, 1) := by decide +kernel
theorem d_X5_write_69 : decode cX5_write 69 = .ok (.iaload, 1) := by decide +kernel
theorem d_X5_write_70 : decode cX5_write 70 = .ok (.invokestatic 311, 3) := by decide +kernel
theorem d_X5_write_73 : decode cX5_write 73 = .ok (.iastore, 1) := by decide +kernel
theorem d_X5_write_74 : decode cX5_write 74 = .ok (.iconst 1, 1) := by decide +kernel
theorem d_X5_write_75 : decode cX5_write 75 = .ok (.ireturn, 1) := by decide +kernel
noncomputable def P_X5_write : Nat → Op := fun pc => nd 39 pc (nd 20 pc (nd 10 pc (nd 4 pc (nd 1 pc (lf 0 pc (oILd 1 1)) (lf 1 pc (oCaS 1 S_X5_isSheet 4))) (nd 7 pc (lf 4 pc (oIfEq 7 14)) (nd 8 pc (lf 7 pc (oALd 0 8)) (lf 8 pc (oCst (-1000001) 10))))) (nd 15 pc (nd 13 pc (lf 10 pc (oCaV 2 5 S_X5_finding 13)) (nd 14 pc (lf 13 pc (oIRet)) (lf 14 pc (oALd 0 15)))) (nd 18 pc (lf 15 pc (oGetR 5 18 18)) (nd 19 pc (lf 18 pc (oILd 1 19)) (lf 19 pc (oIAL 20)))))) (nd 31 pc (nd 26 pc (nd 23 pc (lf 20 pc (oIfEq 23 30)) (nd 24 pc (lf 23 pc (oALd 0 24)) (lf 24 pc (oCst (-1000006) 26)))) (nd 29 pc (lf 26 pc (oCaV 2 5 S_X5_finding 29)) (nd 30 pc (lf 29 pc (oIRet)) (lf 30 pc (oILd 2 31))))) (nd 36 pc (nd 32 pc (lf 31 pc (oCst 0 32)) (nd 33 pc (lf 32 pc (oALd 0 33)) (lf 33 pc (oGetR 5 19 36)))) (nd 37 pc (lf 36 pc (oILd 1 37)) (nd 38 pc (lf 37 pc (oIAL 38)) (lf 38 pc (oCst 1 39))))))) (nd 60 pc (nd 49 pc (nd 43 pc (nd 40 pc (lf 39 pc (oBin (fun x y => x - y) 40)) (lf 40 pc (oCaS 3 S_X5_within 43))) (nd 46 pc (lf 43 pc (oIfEq 46 53)) (nd 47 pc (lf 46 pc (oALd 0 47)) (lf 47 pc (oCst (-1000001) 49))))) (nd 54 pc (nd 52 pc (lf 49 pc (oCaV 2 5 S_X5_finding 52)) (nd 53 pc (lf 52 pc (oIRet)) (lf 53 pc (oALd 0 54)))) (nd 57 pc (lf 54 pc (oGetR 5 20 57)) (nd 59 pc (lf 57 pc (oCst 40 59)) (lf 59 pc (oILd 1 60)))))) (nd 68 pc (nd 63 pc (nd 61 pc (lf 60 pc (oBin (fun x y => x * y) 61)) (nd 62 pc (lf 61 pc (oILd 2 62)) (lf 62 pc (oBin (fun x y => x + y) 63)))) (nd 64 pc (lf 63 pc (oILd 3 64)) (nd 65 pc (lf 64 pc (oALd 0 65)) (lf 65 pc (oGetR 5 18 68))))) (nd 73 pc (nd 69 pc (lf 68 pc (oILd 1 69)) (nd 70 pc (lf 69 pc (oIAL 70)) (lf 70 pc (oCaS 2 S_X5_cutTo 73)))) (nd 74 pc (lf 73 pc (oIAS 74)) (nd 75 pc (lf 74 pc (oCst 1 75)) (lf 75 pc (oIRet)))))))
theorem ok_X5_write {l : Launch} {G : Gm} : ∀ pc, OkU (TXm l G (rmD 3) 4 cX5_write RX5) (RXm l G (rmD 3) 4 cX5_write RX5 (some .int)) pc (P_X5_write pc) := fun pc => ok_nd (ok_nd (ok_nd (ok_nd (ok_nd (ok_lf (ok_ILdn d_X5_write_0 rfl rfl)) (ok_lf (ok_CaS su_X5_isSheet d_X5_write_1 q1016 q1017 q6 q1018 ⟨by decide +kernel, by decide +kernel, by decide +kernel⟩ ⟨by decide, by decide⟩ rfl))) (ok_nd (ok_lf (ok_IfNe d_X5_write_4 (by decide) rfl)) (ok_nd (ok_lf (ok_ALdn d_X5_write_7 rfl rfl)) (ok_lf (ok_Ldc d_X5_write_8 q781 rfl))))) (ok_nd (ok_nd (ok_lf (ok_CaV su_X5_finding (by decide) rfl d_X5_write_10 q782 q784 z56 q6 q785 ⟨by decide +kernel, by decide +kernel, by decide +kernel⟩ ⟨by decide, by decide⟩ rfl)) (ok_nd (ok_lf (ok_IRet d_X5_write_13)) (ok_lf (ok_ALdn d_X5_write_14 rfl rfl)))) (ok_nd (ok_lf (ok_GetR (by decide) (by decide) rfl d_X5_write_15 q721 rfl)) (ok_nd (ok_lf (ok_ILdn d_X5_write_18 rfl rfl)) (ok_lf (ok_IAL d_X5_write_19 rfl)))))) (ok_nd (ok_nd (ok_nd (ok_lf (ok_IfNe d_X5_write_20 (by decide) rfl)) (ok_nd (ok_lf (ok_ALdn d_X5_write_23 rfl rfl)) (ok_lf (ok_Ldc d_X5_write_24 q1019 rfl)))) (ok_nd (ok_lf (ok_CaV su_X5_finding (by decide) rfl d_X5_write_26 q782 q784 z56 q6 q785 ⟨by decide +kernel, by decide +kernel, by decide +kernel⟩ ⟨by decide, by decide⟩ rfl)) (ok_nd (ok_lf (ok_IRet d_X5_write_29)) (ok_lf (ok_ILdn d_X5_write_30 rfl rfl))))) (ok_nd (ok_nd (ok_lf (ok_ICst d_X5_write_31 (by decide) rfl)) (ok_nd (ok_lf (ok_ALdn d_X5_write_32 rfl rfl)) (ok_lf (ok_GetR (by decide) (by decide) rfl d_X5_write_33 q722 rfl)))) (ok_nd (ok_lf (ok_ILdn d_X5_write_36 rfl rfl)) (ok_nd (ok_lf (ok_IAL d_X5_write_37 rfl)) (ok_lf (ok_ICst d_X5_write_38 (by decide) rfl))))))) (ok_nd (ok_nd (ok_nd (ok_nd (ok_lf (ok_isub d_X5_write_39 rfl)) (ok_lf (ok_CaS su_X5_within d_X5_write_40 q774 q775 q6 q776 ⟨by decide +kernel, by decide +kernel, by decide +kernel⟩ ⟨by decide, by decide⟩ rfl))) (ok_nd (ok_lf (ok_IfNe d_X5_write_43 (by decide) rfl)) (ok_nd (ok_lf (ok_ALdn d_X5_write_46 rfl rfl)) (ok_lf (ok_Ldc d_X5_write_47 q781 rfl))))) (ok_nd (ok_nd (ok_lf (ok_CaV su_X5_finding (by decide) rfl d_X5_write_49 q782 q784 z56 q6 q785 ⟨by decide +kernel, by decide +kernel, by decide +kernel⟩ ⟨by decide, by decide⟩ rfl)) (ok_nd (ok_lf (ok_IRet d_X5_write_52)) (ok_lf (ok_ALdn d_X5_write_53 rfl rfl)))) (ok_nd (ok_lf (ok_GetR (by decide) (by decide) rfl d_X5_write_54 q723 rfl)) (ok_nd (ok_lf (ok_BCst d_X5_write_57 (by decide) rfl)) (ok_lf (ok_ILdn d_X5_write_59 rfl rfl)))))) (ok_nd (ok_nd (ok_nd (ok_lf (ok_imul d_X5_write_60 rfl)) (ok_nd (ok_lf (ok_ILdn d_X5_write_61 rfl rfl)) (ok_lf (ok_iadd d_X5_write_62 rfl)))) (ok_nd (ok_lf (ok_ILdn d_X5_write_63 rfl rfl)) (ok_nd (ok_lf (ok_ALdn d_X5_write_64 rfl rfl)) (ok_lf (ok_GetR (by decide) (by decide) rfl d_X5_write_65 q721 rfl))))) (ok_nd (ok_nd (ok_lf (ok_ILdn d_X5_write_68 rfl rfl)) (ok_nd (ok_lf (ok_IAL d_X5_write_69 rfl)) (ok_lf (ok_CaS su_X5_cutTo d_X5_write_70 q1144 q1145 q6 q1146 ⟨by decide +kernel, by decide +kernel, by decide +kernel⟩ ⟨by decide, by decide⟩ rfl)))) (ok_nd (ok_lf (ok_IAS d_X5_write_73 rfl)) (ok_nd (ok_lf (ok_ICst d_X5_write_74 (by decide) rfl)) (ok_lf (ok_IRet d_X5_write_75)))))))
noncomputable def S_X5_write : Sem := lockS (inl P_X5_write 48 4) 0
theorem su_X5_write {l : Launch} {G : Gm} : SemU l G yX5_write (wsOf yX5_write cX5_write 4 (some .int)) 3 S_X5_write := sem_lock (sem_inl 48 (by decide +kernel) rfl ok_X5_write)
