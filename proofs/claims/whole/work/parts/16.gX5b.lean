theorem d_X5_silent_0 : decode cX5_silent 0 = .ok (.iconst 0, 1) := by decide +kernel
theorem d_X5_silent_1 : decode cX5_silent 1 = .ok (.istore_n 1, 1) := by decide +kernel
theorem d_X5_silent_2 : decode cX5_silent 2 = .ok (.iconst 0, 1) := by decide +kernel
theorem d_X5_silent_3 : decode cX5_silent 3 = .ok (.istore_n 2, 1) := by decide +kernel
theorem d_X5_silent_4 : decode cX5_silent 4 = .ok (.iload_n 2, 1) := by decide +kernel
theorem d_X5_silent_5 : decode cX5_silent 5 = .ok (.aload_n 0, 1) := by decide +kernel
theorem d_X5_silent_6 : decode cX5_silent 6 = .ok (.getfield 9, 3) := by decide +kernel
theorem d_X5_silent_9 : decode cX5_silent 9 = .ok (.iconst 1, 1) := by decide +kernel
theorem d_X5_silent_10 : decode cX5_silent 10 = .ok (.iaload, 1) := by decide +kernel
theorem d_X5_silent_11 : decode cX5_silent 11 = .ok (.if_icmp .ge 20, 3) := by decide +kernel
theorem d_X5_silent_14 : decode cX5_silent 14 = .ok (.iload_n 1, 1) := by decide +kernel
theorem d_X5_silent_15 : decode cX5_silent 15 = .ok (.aload_n 0, 1) := by decide +kernel
theorem d_X5_silent_16 : decode cX5_silent 16 = .ok (.iload_n 2, 1) := by decide +kernel
theorem d_X5_silent_17 : decode cX5_silent 17 = .ok (.iconst 5, 1) := by decide +kernel
theorem d_X5_silent_18 : decode cX5_silent 18 = .ok (.invokevirtual 95, 3) := by decide +kernel
theorem d_X5_silent_21 : decode cX5_silent 21 = .ok (.iload_n 2, 1) := by decide +kernel
theorem d_X5_silent_22 : decode cX5_silent 22 = .ok (.ishl, 1) := by decide +kernel
theorem d_X5_silent_23 : decode cX5_silent 23 = .ok (.ior, 1) := by decide +kernel
theorem d_X5_silent_24 : decode cX5_silent 24 = .ok (.istore_n 1, 1) := by decide +kernel
theorem d_X5_silent_25 : decode cX5_silent 25 = .ok (.iinc 2 1, 3) := by decide +kernel
theorem d_X5_silent_28 : decode cX5_silent 28 = .ok (.goto (-24), 3) := by decide +kernel
theorem d_X5_silent_31 : decode cX5_silent 31 = .ok (.iload_n 1, 1) := by decide +kernel
theorem d_X5_silent_32 : decode cX5_silent 32 = .ok (.ireturn, 1) := by decide +kernel
noncomputable def P_X5_silent : Nat → Op := fun pc => nd 15 pc (nd 5 pc (nd 2 pc (nd 1 pc (lf 0 pc (oCst 0 1)) (lf 1 pc (oISt 1 2))) (nd 3 pc (lf 2 pc (oCst 0 3)) (nd 4 pc (lf 3 pc (oISt 2 4)) (lf 4 pc (lockO (oILd 2 5) 0))))) (nd 10 pc (nd 6 pc (lf 5 pc (oALd 0 6)) (nd 9 pc (lf 6 pc (oGetR 5 0 9)) (lf 9 pc (oCst 1 10)))) (nd 11 pc (lf 10 pc (oIAL 11)) (nd 14 pc (lf 11 pc (oCpLt 14 31)) (lf 14 pc (oILd 1 15)))))) (nd 23 pc (nd 18 pc (nd 16 pc (lf 15 pc (oALd 0 16)) (nd 17 pc (lf 16 pc (oILd 2 17)) (lf 17 pc (oCst 5 18)))) (nd 21 pc (lf 18 pc (oCaV 3 5 S_X5_disputantIs 21)) (nd 22 pc (lf 21 pc (oILd 2 22)) (lf 22 pc (oBin (fun x y => x <<< (y &&& 31)) 23))))) (nd 28 pc (nd 24 pc (lf 23 pc (oBin (fun x y => x ||| y) 24)) (nd 25 pc (lf 24 pc (oISt 1 25)) (lf 25 pc (oInc 2 1 28)))) (nd 31 pc (lf 28 pc (oGo 4)) (nd 32 pc (lf 31 pc (oILd 1 32)) (lf 32 pc (oIRet))))))
theorem ok_X5_silent {l : Launch} {G : Gm} : ∀ pc, OkU (TXm l G (rmD 3) 3 cX5_silent RX5) (RXm l G (rmD 3) 3 cX5_silent RX5 (some .int)) pc (P_X5_silent pc) := fun pc => ok_nd (ok_nd (ok_nd (ok_nd (ok_lf (ok_ICst d_X5_silent_0 (by decide) rfl)) (ok_lf (ok_IStn d_X5_silent_1 rfl rfl))) (ok_nd (ok_lf (ok_ICst d_X5_silent_2 (by decide) rfl)) (ok_nd (ok_lf (ok_IStn d_X5_silent_3 rfl rfl)) (ok_lf (ok_lk (ok_ILdn d_X5_silent_4 rfl rfl)))))) (ok_nd (ok_nd (ok_lf (ok_ALdn d_X5_silent_5 rfl rfl)) (ok_nd (ok_lf (ok_GetR (by decide) (by decide) rfl d_X5_silent_6 q703 rfl)) (ok_lf (ok_ICst d_X5_silent_9 (by decide) rfl)))) (ok_nd (ok_lf (ok_IAL d_X5_silent_10 rfl)) (ok_nd (ok_lf (ok_CpGe d_X5_silent_11 (by decide) rfl)) (ok_lf (ok_ILdn d_X5_silent_14 rfl rfl)))))) (ok_nd (ok_nd (ok_nd (ok_lf (ok_ALdn d_X5_silent_15 rfl rfl)) (ok_nd (ok_lf (ok_ILdn d_X5_silent_16 rfl rfl)) (ok_lf (ok_ICst d_X5_silent_17 (by decide) rfl)))) (ok_nd (ok_lf (ok_CaV su_X5_disputantIs (by decide) rfl d_X5_silent_18 q835 q837 z61 q6 q838 ⟨by decide +kernel, by decide +kernel, by decide +kernel⟩ ⟨by decide, by decide⟩ rfl)) (ok_nd (ok_lf (ok_ILdn d_X5_silent_21 rfl rfl)) (ok_lf (ok_ishl d_X5_silent_22 rfl))))) (ok_nd (ok_nd (ok_lf (ok_ior d_X5_silent_23 rfl)) (ok_nd (ok_lf (ok_IStn d_X5_silent_24 rfl rfl)) (ok_lf (ok_Inc d_X5_silent_25 (by decide) rfl)))) (ok_nd (ok_lf (ok_Go d_X5_silent_28 (by decide))) (ok_nd (ok_lf (ok_ILdn d_X5_silent_31 rfl rfl)) (ok_lf (ok_IRet d_X5_silent_32))))))
noncomputable def S_X5_silent : Sem := lockS (inl P_X5_silent 30000 3) 0
theorem su_X5_silent {l : Launch} {G : Gm} : SemU l G yX5_silent (wsOf yX5_silent cX5_silent 3 (some .int)) 3 S_X5_silent := sem_lock (sem_inl 30000 (by decide +kernel) rfl ok_X5_silent)
theorem d_X5_now_0 : decode cX5_now 0 = .ok (.iload_n 1, 1) := by decide +kernel
theorem d_X5_now_1 : decode cX5_now 1 = .ok (.tableswitch 101 0 7 #[47, 54, 60, 67, 72, 78, 83, 88], 47) := by decide +kernel
theorem d_X5_now_48 : decode cX5_now 48 = .ok (.aload_n 0, 1) := by decide +kernel
theorem d_X5_now_49 : decode cX5_now 49 = .ok (.getfield 9, 3) := by decide +kernel
theorem d_X5_now_52 : decode cX5_now 52 = .ok (.iconst 0, 1) := by decide +kernel
theorem d_X5_now_53 : decode cX5_now 53 = .ok (.iaload, 1) := by decide +kernel
theorem d_X5_now_54 : decode cX5_now 54 = .ok (.ireturn, 1) := by decide +kernel
theorem d_X5_now_55 : decode cX5_now 55 = .ok (.aload_n 0, 1) := by decide +kernel
theorem d_X5_now_56 : decode cX5_now 56 = .ok (.iconst 3, 1) := by decide +kernel
theorem d_X5_now_57 : decode cX5_now 57 = .ok (.invokevirtual 164, 3) := by decide +kernel
theorem d_X5_now_60 : decode cX5_now 60 = .ok (.ireturn, 1) := by decide +kernel
theorem d_X5_now_61 : decode cX5_now 61 = .ok (.aload_n 0, 1) := by decide +kernel
theorem d_X5_now_62 : decode cX5_now 62 = .ok (.getfield 9, 3) := by decide +kernel
theorem d_X5_now_65 : decode cX5_now 65 = .ok (.iconst 5, 1) := by decide +kernel
theorem d_X5_now_66 : decode cX5_now 66 = .ok (.iaload, 1) := by decide +kernel
theorem d_X5_now_67 : decode cX5_now 67 = .ok (.ireturn, 1) := by decide +kernel
theorem d_X5_now_68 : decode cX5_now 68 = .ok (.aload_n 0, 1) := by decide +kernel
theorem d_X5_now_69 : decode cX5_now 69 = .ok (.invokevirtual 167, 3) := by decide +kernel
theorem d_X5_now_72 : decode cX5_now 72 = .ok (.ireturn, 1) := by decide +kernel
theorem d_X5_now_73 : decode cX5_now 73 = .ok (.aload_n 0, 1) := by decide +kernel
theorem d_X5_now_74 : decode cX5_now 74 = .ok (.iconst 2, 1) := by decide +kernel
theorem d_X5_now_75 : decode cX5_now 75 = .ok (.invokevirtual 164, 3) := by decide +kernel
theorem d_X5_now_78 : decode cX5_now 78 = .ok (.ireturn, 1) := by decide +kernel
theorem d_X5_now_79 : decode cX5_now 79 = .ok (.aload_n 0, 1) := by decide +kernel
theorem d_X5_now_80 : decode cX5_now 80 = .ok (.invokevirtual 171, 3) := by decide +kernel
theorem d_X5_now_83 : decode cX5_now 83 = .ok (.ireturn, 1) := by decide +kernel
theorem d_X5_now_84 : decode cX5_now 84 = .ok (.aload_n 0, 1) := by decide +kernel
theorem d_X5_now_85 : decode cX5_now 85 = .ok (.invokevirtual 174, 3) := by decide +kernel
theorem d_X5_now_88 : decode cX5_now 88 = .ok (.ireturn, 1) := by decide +kernel
theorem d_X5_now_89 : decode cX5_now 89 = .ok (.aload_n 0, 1) := by decide +kernel
theorem d_X5_now_90 : decode cX5_now 90 = .ok (.invokevirtual 147, 3) := by decide +kernel
theorem d_X5_now_93 : decode cX5_now 93 = .ok (.ifCond .eq 7, 3) := by decide +kernel
theorem d_X5_now_96 : decode cX5_now 96 = .ok (.iconst 1, 1) := by decide +kernel
theorem d_X5_now_97 : decode cX5_now 97 = .ok (.goto 4, 3) := by decide +kernel
theorem d_X5_now_100 : decode cX5_now 100 = .ok (.iconst 0, 1) := by decide +kernel
theorem d_X5_now_101 : decode cX5_now 101 = .ok (.ireturn, 1) := by decide +kernel
theorem d_X5_now_102 : decode cX5_now 102 = .ok (.aload_n 0, 1) := by decide +kernel
theorem d_X5_now_103 : decode cX5_now 103 = .ok (.ldc 60, 2) := by decide +kernel
theorem d_X5_now_105 : decode cX5_now 105 = .ok (.invokevirtual 66, 3) := by decide +kernel
theorem d_X5_now_108 : decode cX5_now 108 = .ok (.ireturn, 1) := by decide +kernel
noncomputable def P_X5_now : Nat → Op := fun pc => nd 74 pc (nd 60 pc (nd 53 pc (nd 48 pc (nd 1 pc (lf 0 pc (oILd 1 1)) (lf 1 pc (oSw [(0, 48), (1, 55), (2, 61), (3, 68), (4, 73), (5, 79), (6, 84), (7, 89)] 102))) (nd 49 pc (lf 48 pc (oALd 0 49)) (nd 52 pc (lf 49 pc (oGetR 5 0 52)) (lf 52 pc (oCst 0 53))))) (nd 55 pc (nd 54 pc (lf 53 pc (oIAL 54)) (lf 54 pc (oIRet))) (nd 56 pc (lf 55 pc (oALd 0 56)) (nd 57 pc (lf 56 pc (oCst 3 57)) (lf 57 pc (oCaV 2 5 S_X5_sumOf 60)))))) (nd 67 pc (nd 62 pc (nd 61 pc (lf 60 pc (oIRet)) (lf 61 pc (oALd 0 62))) (nd 65 pc (lf 62 pc (oGetR 5 0 65)) (nd 66 pc (lf 65 pc (oCst 5 66)) (lf 66 pc (oIAL 67))))) (nd 69 pc (nd 68 pc (lf 67 pc (oIRet)) (lf 68 pc (oALd 0 69))) (nd 72 pc (lf 69 pc (oCaV 1 5 S_X5_oftenWrong 72)) (nd 73 pc (lf 72 pc (oIRet)) (lf 73 pc (oALd 0 74))))))) (nd 90 pc (nd 83 pc (nd 78 pc (nd 75 pc (lf 74 pc (oCst 2 75)) (lf 75 pc (oCaV 2 5 S_X5_sumOf 78))) (nd 79 pc (lf 78 pc (oIRet)) (nd 80 pc (lf 79 pc (oALd 0 80)) (lf 80 pc (oCaV 1 5 S_X5_pressesMost 83))))) (nd 85 pc (nd 84 pc (lf 83 pc (oIRet)) (lf 84 pc (oALd 0 85))) (nd 88 pc (lf 85 pc (oCaV 1 5 S_X5_silent 88)) (nd 89 pc (lf 88 pc (oIRet)) (lf 89 pc (oALd 0 90)))))) (nd 101 pc (nd 96 pc (nd 93 pc (lf 90 pc (oCaV 1 5 S_X5_fallsOut 93)) (lf 93 pc (oIfEq 100 96))) (nd 97 pc (lf 96 pc (oCst 1 97)) (nd 100 pc (lf 97 pc (oGo 101)) (lf 100 pc (oCst 0 101))))) (nd 103 pc (nd 102 pc (lf 101 pc (oIRet)) (lf 102 pc (oALd 0 103))) (nd 105 pc (lf 103 pc (oCst (-1000001) 105)) (nd 108 pc (lf 105 pc (oCaV 2 5 S_X5_finding 108)) (lf 108 pc (oIRet)))))))
theorem ok_X5_now {l : Launch} {G : Gm} : ∀ pc, OkU (TXm l G (rmD 5) 2 cX5_now RX5) (RXm l G (rmD 5) 2 cX5_now RX5 (some .int)) pc (P_X5_now pc) := fun pc => ok_nd (ok_nd (ok_nd (ok_nd (ok_nd (ok_lf (ok_ILdn d_X5_now_0 rfl rfl)) (ok_lf (ok_Tab d_X5_now_1 (by decide) (by decide) (by decide) (by decide)))) (ok_nd (ok_lf (ok_ALdn d_X5_now_48 rfl rfl)) (ok_nd (ok_lf (ok_GetR (by decide) (by decide) rfl d_X5_now_49 q703 rfl)) (ok_lf (ok_ICst d_X5_now_52 (by decide) rfl))))) (ok_nd (ok_nd (ok_lf (ok_IAL d_X5_now_53 rfl)) (ok_lf (ok_IRet d_X5_now_54))) (ok_nd (ok_lf (ok_ALdn d_X5_now_55 rfl rfl)) (ok_nd (ok_lf (ok_ICst d_X5_now_56 (by decide) rfl)) (ok_lf (ok_CaV su_X5_sumOf (by decide) rfl d_X5_now_57 q915 q917 z75 q6 q918 ⟨by decide +kernel, by decide +kernel, by decide +kernel⟩ ⟨by decide, by decide⟩ rfl)))))) (ok_nd (ok_nd (ok_nd (ok_lf (ok_IRet d_X5_now_60)) (ok_lf (ok_ALdn d_X5_now_61 rfl rfl))) (ok_nd (ok_lf (ok_GetR (by decide) (by decide) rfl d_X5_now_62 q703 rfl)) (ok_nd (ok_lf (ok_ICst d_X5_now_65 (by decide) rfl)) (ok_lf (ok_IAL d_X5_now_66 rfl))))) (ok_nd (ok_nd (ok_lf (ok_IRet d_X5_now_67)) (ok_lf (ok_ALdn d_X5_now_68 rfl rfl))) (ok_nd (ok_lf (ok_CaV su_X5_oftenWrong (by decide) rfl d_X5_now_69 q923 q925 z76 q6 q926 ⟨by decide +kernel, by decide +kernel, by decide +kernel⟩ ⟨by decide, by decide⟩ rfl)) (ok_nd (ok_lf (ok_IRet d_X5_now_72)) (ok_lf (ok_ALdn d_X5_now_73 rfl rfl))))))) (ok_nd (ok_nd (ok_nd (ok_nd (ok_lf (ok_ICst d_X5_now_74 (by decide) rfl)) (ok_lf (ok_CaV su_X5_sumOf (by decide) rfl d_X5_now_75 q915 q917 z75 q6 q918 ⟨by decide +kernel, by decide +kernel, by decide +kernel⟩ ⟨by decide, by decide⟩ rfl))) (ok_nd (ok_lf (ok_IRet d_X5_now_78)) (ok_nd (ok_lf (ok_ALdn d_X5_now_79 rfl rfl)) (ok_lf (ok_CaV su_X5_pressesMost (by decide) rfl d_X5_now_80 q927 q929 z77 q6 q930 ⟨by decide +kernel, by decide +kernel, by decide +kernel⟩ ⟨by decide, by decide⟩ rfl))))) (ok_nd (ok_nd (ok_lf (ok_IRet d_X5_now_83)) (ok_lf (ok_ALdn d_X5_now_84 rfl rfl))) (ok_nd (ok_lf (ok_CaV su_X5_silent (by decide) rfl d_X5_now_85 q931 q933 z78 q6 q934 ⟨by decide +kernel, by decide +kernel, by decide +kernel⟩ ⟨by decide, by decide⟩ rfl)) (ok_nd (ok_lf (ok_IRet d_X5_now_88)) (ok_lf (ok_ALdn d_X5_now_89 rfl rfl)))))) (ok_nd (ok_nd (ok_nd (ok_lf (ok_CaV su_X5_fallsOut (by decide) rfl d_X5_now_90 q903 q905 z72 q6 q906 ⟨by decide +kernel, by decide +kernel, by decide +kernel⟩ ⟨by decide, by decide⟩ rfl)) (ok_lf (ok_IfEq d_X5_now_93 (by decide) rfl))) (ok_nd (ok_lf (ok_ICst d_X5_now_96 (by decide) rfl)) (ok_nd (ok_lf (ok_Go d_X5_now_97 (by decide))) (ok_lf (ok_ICst d_X5_now_100 (by decide) rfl))))) (ok_nd (ok_nd (ok_lf (ok_IRet d_X5_now_101)) (ok_lf (ok_ALdn d_X5_now_102 rfl rfl))) (ok_nd (ok_lf (ok_Ldc d_X5_now_103 q781 rfl)) (ok_nd (ok_lf (ok_CaV su_X5_finding (by decide) rfl d_X5_now_105 q782 q784 z56 q6 q785 ⟨by decide +kernel, by decide +kernel, by decide +kernel⟩ ⟨by decide, by decide⟩ rfl)) (ok_lf (ok_IRet d_X5_now_108)))))))
noncomputable def S_X5_now : Sem := lockS (inl P_X5_now 42 2) 0
theorem su_X5_now {l : Launch} {G : Gm} : SemU l G yX5_now (wsOf yX5_now cX5_now 2 (some .int)) 5 S_X5_now := sem_lock (sem_inl 42 (by decide +kernel) rfl ok_X5_now)
theorem d_X5_behind_0 : decode cX5_behind 0 = .ok (.aload_n 0, 1) := by decide +kernel
theorem d_X5_behind_1 : decode cX5_behind 1 = .ok (.getfield 9, 3) := by decide +kernel
theorem d_X5_behind_4 : decode cX5_behind 4 = .ok (.aload_n 0, 1) := by decide +kernel
theorem d_X5_behind_5 : decode cX5_behind 5 = .ok (.getfield 16, 3) := by decide +kernel
theorem d_X5_behind_8 : decode cX5_behind 8 = .ok (.invokestatic 61, 3) := by decide +kernel
theorem d_X5_behind_11 : decode cX5_behind 11 = .ok (.aload_n 0, 1) := by decide +kernel
theorem d_X5_behind_12 : decode cX5_behind 12 = .ok (.iload_n 2, 1) := by decide +kernel
theorem d_X5_behind_13 : decode cX5_behind 13 = .ok (.invokevirtual 160, 3) := by decide +kernel
theorem d_X5_behind_16 : decode cX5_behind 16 = .ok (.aload_n 0, 1) := by decide +kernel
theorem d_X5_behind_17 : decode cX5_behind 17 = .ok (.aload_n 0, 1) := by decide +kernel
theorem d_X5_behind_18 : decode cX5_behind 18 = .ok (.getfield 9, 3) := by decide +kernel
theorem d_X5_behind_21 : decode cX5_behind 21 = .ok (.iload_n 1, 1) := by decide +kernel
theorem d_X5_behind_22 : decode cX5_behind 22 = .ok (.iaload, 1) := by decide +kernel
theorem d_X5_behind_23 : decode cX5_behind 23 = .ok (.invokevirtual 177, 3) := by decide +kernel
theorem d_X5_behind_26 : decode cX5_behind 26 = .ok (.ireturn, 1) := by decide +kernel
noncomputable def P_X5_behind : Nat → Op := fun pc => nd 13 pc (nd 5 pc (nd 1 pc (lf 0 pc (oALd 0 1)) (nd 4 pc (lf 1 pc (oGetR 5 0 4)) (lf 4 pc (oALd 0 5)))) (nd 11 pc (nd 8 pc (lf 5 pc (oGetR 5 2 8)) (lf 8 pc (oCaS 2 S_X5_copyRow 11))) (nd 12 pc (lf 11 pc (oALd 0 12)) (lf 12 pc (oILd 2 13))))) (nd 21 pc (nd 17 pc (nd 16 pc (lf 13 pc (oCaV 2 5 S_X5_dropsGo 16)) (lf 16 pc (oALd 0 17))) (nd 18 pc (lf 17 pc (oALd 0 18)) (lf 18 pc (oGetR 5 0 21)))) (nd 23 pc (nd 22 pc (lf 21 pc (oILd 1 22)) (lf 22 pc (oIAL 23))) (nd 26 pc (lf 23 pc (oCaV 2 5 S_X5_putBack 26)) (lf 26 pc (oIRet)))))
theorem ok_X5_behind {l : Launch} {G : Gm} : ∀ pc, OkU (TXm l G (rmD 9) 3 cX5_behind RX5) (RXm l G (rmD 9) 3 cX5_behind RX5 (some .int)) pc (P_X5_behind pc) := fun pc => ok_nd (ok_nd (ok_nd (ok_lf (ok_ALdn d_X5_behind_0 rfl rfl)) (ok_nd (ok_lf (ok_GetR (by decide) (by decide) rfl d_X5_behind_1 q703 rfl)) (ok_lf (ok_ALdn d_X5_behind_4 rfl rfl)))) (ok_nd (ok_nd (ok_lf (ok_GetR (by decide) (by decide) rfl d_X5_behind_5 q705 rfl)) (ok_lf (ok_CaS su_X5_copyRow d_X5_behind_8 q939 q940 q6 q941 ⟨by decide +kernel, by decide +kernel, by decide +kernel⟩ ⟨by decide, by decide⟩ rfl))) (ok_nd (ok_lf (ok_ALdn d_X5_behind_11 rfl rfl)) (ok_lf (ok_ILdn d_X5_behind_12 rfl rfl))))) (ok_nd (ok_nd (ok_nd (ok_lf (ok_CaV su_X5_dropsGo (by decide) rfl d_X5_behind_13 q895 q897 z70 q6 q898 ⟨by decide +kernel, by decide +kernel, by decide +kernel⟩ ⟨by decide, by decide⟩ rfl)) (ok_lf (ok_ALdn d_X5_behind_16 rfl rfl))) (ok_nd (ok_lf (ok_ALdn d_X5_behind_17 rfl rfl)) (ok_lf (ok_GetR (by decide) (by decide) rfl d_X5_behind_18 q703 rfl)))) (ok_nd (ok_nd (ok_lf (ok_ILdn d_X5_behind_21 rfl rfl)) (ok_lf (ok_IAL d_X5_behind_22 rfl))) (ok_nd (ok_lf (ok_CaV su_X5_putBack (by decide) rfl d_X5_behind_23 q942 q944 z79 q6 q945 ⟨by decide +kernel, by decide +kernel, by decide +kernel⟩ ⟨by decide, by decide⟩ rfl)) (ok_lf (ok_IRet d_X5_behind_26)))))
noncomputable def S_X5_behind : Sem := lockS (inl P_X5_behind 17 3) 0
theorem su_X5_behind {l : Launch} {G : Gm} : SemU l G yX5_behind (wsOf yX5_behind cX5_behind 3 (some .int)) 9 S_X5_behind := sem_lock (sem_inl 17 (by decide +kernel) rfl ok_X5_behind)
theorem d_X5_ahead_0 : decode cX5_ahead 0 = .ok (.iload_n 2, 1) := by decide +kernel
theorem d_X5_ahead_1 : decode cX5_ahead 1 = .ok (.iconst 1, 1) := by decide +kernel
theorem d_X5_ahead_2 : decode cX5_ahead 2 = .ok (.iconst 4, 1) := by decide +kernel
theorem d_X5_ahead_3 : decode cX5_ahead 3 = .ok (.invokestatic 70, 3) := by decide +kernel
theorem d_X5_ahead_6 : decode cX5_ahead 6 = .ok (.ifCond .ne 9, 3) := by decide +kernel
theorem d_X5_ahead_9 : decode cX5_ahead 9 = .ok (.iload_n 2, 1) := by decide +kernel
theorem d_X5_ahead_10 : decode cX5_ahead 10 = .ok (.bipush 6, 2) := by decide +kernel
theorem d_X5_ahead_12 : decode cX5_ahead 12 = .ok (.if_icmp .ne 7, 3) := by decide +kernel
theorem d_X5_ahead_15 : decode cX5_ahead 15 = .ok (.iconst 1, 1) := by decide +kernel
theorem d_X5_ahead_16 : decode cX5_ahead 16 = .ok (.goto 4, 3) := by decide +kernel
theorem d_X5_ahead_19 : decode cX5_ahead 19 = .ok (.iconst 0, 1) := by decide +kernel
theorem d_X5_ahead_20 : decode cX5_ahead 20 = .ok (.istore 4, 2) := by decide +kernel
theorem d_X5_ahead_22 : decode cX5_ahead 22 = .ok (.aload_n 0, 1) := by decide +kernel
theorem d_X5_ahead_23 : decode cX5_ahead 23 = .ok (.iload_n 1, 1) := by decide +kernel
theorem d_X5_ahead_24 : decode cX5_ahead 24 = .ok (.invokevirtual 121, 3) := by decide +kernel
theorem d_X5_ahead_27 : decode cX5_ahead 27 = .ok (.ifCond .eq 18, 3) := by decide +kernel
theorem d_X5_ahead_30 : decode cX5_ahead 30 = .ok (.iload 4, 2) := by decide +kernel
theorem d_X5_ahead_32 : decode cX5_ahead 32 = .ok (.ifCond .eq 13, 3) := by decide +kernel
theorem d_X5_ahead_35 : decode cX5_ahead 35 = .ok (.iload_n 3, 1) := by decide +kernel
theorem d_X5_ahead_36 : decode cX5_ahead 36 = .ok (.iconst 0, 1) := by decide +kernel
theorem d_X5_ahead_37 : decode cX5_ahead 37 = .ok (.bipush 100, 2) := by decide +kernel
theorem d_X5_ahead_39 : decode cX5_ahead 39 = .ok (.invokestatic 70, 3) := by decide +kernel
theorem d_X5_ahead_42 : decode cX5_ahead 42 = .ok (.ifCond .ne 10, 3) := by decide +kernel
theorem d_X5_ahead_45 : decode cX5_ahead 45 = .ok (.aload_n 0, 1) := by decide +kernel
theorem d_X5_ahead_46 : decode cX5_ahead 46 = .ok (.ldc 60, 2) := by decide +kernel
theorem d_X5_ahead_48 : decode cX5_ahead 48 = .ok (.invokevirtual 66, 3) := by decide +kernel
theorem d_X5_ahead_51 : decode cX5_ahead 51 = .ok (.ireturn, 1) := by decide +kernel
theorem d_X5_ahead_52 : decode cX5_ahead 52 = .ok (.aload_n 0, 1) := by decide +kernel
theorem d_X5_ahead_53 : decode cX5_ahead 53 = .ok (.getfield 9, 3) := by decide +kernel
theorem d_X5_ahead_56 : decode cX5_ahead 56 = .ok (.aload_n 0, 1) := by decide +kernel
theorem d_X5_ahead_57 : decode cX5_ahead 57 = .ok (.getfield 16, 3) := by decide +kernel
theorem d_X5_ahead_60 : decode cX5_ahead 60 = .ok (.invokestatic 61, 3) := by decide +kernel
theorem d_X5_ahead_63 : decode cX5_ahead 63 = .ok (.aload_n 0, 1) := by decide +kernel
theorem d_X5_ahead_64 : decode cX5_ahead 64 = .ok (.iload_n 3, 1) := by decide +kernel
theorem d_X5_ahead_65 : decode cX5_ahead 65 = .ok (.invokevirtual 160, 3) := by decide +kernel
theorem d_X5_ahead_68 : decode cX5_ahead 68 = .ok (.aload_n 0, 1) := by decide +kernel
theorem d_X5_ahead_69 : decode cX5_ahead 69 = .ok (.aload_n 0, 1) := by decide +kernel
theorem d_X5_ahead_70 : decode cX5_ahead 70 = .ok (.iload_n 1, 1) := by decide +kernel
theorem d_X5_ahead_71 : decode cX5_ahead 71 = .ok (.iload_n 2, 1) := by decide +kernel
theorem d_X5_ahead_72 : decode cX5_ahead 72 = .ok (.invokevirtual 124, 3) := by decide +kernel
theorem d_X5_ahead_75 : decode cX5_ahead 75 = .ok (.invokevirtual 177, 3) := by decide +kernel
theorem d_X5_ahead_78 : decode cX5_ahead 78 = .ok (.ireturn, 1) := by decide +kernel
noncomputable def P_X5_ahead : Nat → Op := fun pc => nd 39 pc (nd 19 pc (nd 9 pc (nd 2 pc (nd 1 pc (lf 0 pc (oILd 2 1)) (lf 1 pc (oCst 1 2))) (nd 3 pc (lf 2 pc (oCst 4 3)) (nd 6 pc (lf 3 pc (oCaS 3 S_X5_within 6)) (lf 6 pc (oIfEq 9 15))))) (nd 12 pc (nd 10 pc (lf 9 pc (oILd 2 10)) (lf 10 pc (oCst 6 12))) (nd 15 pc (lf 12 pc (oCpEq 15 19)) (nd 16 pc (lf 15 pc (oCst 1 16)) (lf 16 pc (oGo 20)))))) (nd 27 pc (nd 22 pc (nd 20 pc (lf 19 pc (oCst 0 20)) (lf 20 pc (oISt 4 22))) (nd 23 pc (lf 22 pc (oALd 0 23)) (nd 24 pc (lf 23 pc (oILd 1 24)) (lf 24 pc (oCaV 2 5 S_X5_isDisputant 27))))) (nd 35 pc (nd 30 pc (lf 27 pc (oIfEq 45 30)) (nd 32 pc (lf 30 pc (oILd 4 32)) (lf 32 pc (oIfEq 45 35)))) (nd 36 pc (lf 35 pc (oILd 3 36)) (nd 37 pc (lf 36 pc (oCst 0 37)) (lf 37 pc (oCst 100 39))))))) (nd 60 pc (nd 51 pc (nd 45 pc (nd 42 pc (lf 39 pc (oCaS 3 S_X5_within 42)) (lf 42 pc (oIfEq 45 52))) (nd 46 pc (lf 45 pc (oALd 0 46)) (nd 48 pc (lf 46 pc (oCst (-1000001) 48)) (lf 48 pc (oCaV 2 5 S_X5_finding 51))))) (nd 53 pc (nd 52 pc (lf 51 pc (oIRet)) (lf 52 pc (oALd 0 53))) (nd 56 pc (lf 53 pc (oGetR 5 0 56)) (nd 57 pc (lf 56 pc (oALd 0 57)) (lf 57 pc (oGetR 5 2 60)))))) (nd 69 pc (nd 64 pc (nd 63 pc (lf 60 pc (oCaS 2 S_X5_copyRow 63)) (lf 63 pc (oALd 0 64))) (nd 65 pc (lf 64 pc (oILd 3 65)) (nd 68 pc (lf 65 pc (oCaV 2 5 S_X5_dropsGo 68)) (lf 68 pc (oALd 0 69))))) (nd 72 pc (nd 70 pc (lf 69 pc (oALd 0 70)) (nd 71 pc (lf 70 pc (oILd 1 71)) (lf 71 pc (oILd 2 72)))) (nd 75 pc (lf 72 pc (oCaV 3 5 S_X5_told 75)) (nd 78 pc (lf 75 pc (oCaV 2 5 S_X5_putBack 78)) (lf 78 pc (oIRet)))))))
theorem ok_X5_ahead {l : Launch} {G : Gm} : ∀ pc, OkU (TXm l G (rmD 9) 5 cX5_ahead RX5) (RXm l G (rmD 9) 5 cX5_ahead RX5 (some .int)) pc (P_X5_ahead pc) := fun pc => ok_nd (ok_nd (ok_nd (ok_nd (ok_nd (ok_lf (ok_ILdn d_X5_ahead_0 rfl rfl)) (ok_lf (ok_ICst d_X5_ahead_1 (by decide) rfl))) (ok_nd (ok_lf (ok_ICst d_X5_ahead_2 (by decide) rfl)) (ok_nd (ok_lf (ok_CaS su_X5_within d_X5_ahead_3 q774 q775 q6 q776 ⟨by decide +kernel, by decide +kernel, by decide +kernel⟩ ⟨by decide, by decide⟩ rfl)) (ok_lf (ok_IfNe d_X5_ahead_6 (by decide) rfl))))) (ok_nd (ok_nd (ok_lf (ok_ILdn d_X5_ahead_9 rfl rfl)) (ok_lf (ok_BCst d_X5_ahead_10 (by decide) rfl))) (ok_nd (ok_lf (ok_CpNe d_X5_ahead_12 (by decide) rfl)) (ok_nd (ok_lf (ok_ICst d_X5_ahead_15 (by decide) rfl)) (ok_lf (ok_Go d_X5_ahead_16 (by decide))))))) (ok_nd (ok_nd (ok_nd (ok_lf (ok_ICst d_X5_ahead_19 (by decide) rfl)) (ok_lf (ok_ISt d_X5_ahead_20 rfl))) (ok_nd (ok_lf (ok_ALdn d_X5_ahead_22 rfl rfl)) (ok_nd (ok_lf (ok_ILdn d_X5_ahead_23 rfl rfl)) (ok_lf (ok_CaV su_X5_isDisputant (by decide) rfl d_X5_ahead_24 q823 q825 z58 q6 q826 ⟨by decide +kernel, by decide +kernel, by decide +kernel⟩ ⟨by decide, by decide⟩ rfl))))) (ok_nd (ok_nd (ok_lf (ok_IfEq d_X5_ahead_27 (by decide) rfl)) (ok_nd (ok_lf (ok_ILd d_X5_ahead_30 rfl)) (ok_lf (ok_IfEq d_X5_ahead_32 (by decide) rfl)))) (ok_nd (ok_lf (ok_ILdn d_X5_ahead_35 rfl rfl)) (ok_nd (ok_lf (ok_ICst d_X5_ahead_36 (by decide) rfl)) (ok_lf (ok_BCst d_X5_ahead_37 (by decide) rfl))))))) (ok_nd (ok_nd (ok_nd (ok_nd (ok_lf (ok_CaS su_X5_within d_X5_ahead_39 q774 q775 q6 q776 ⟨by decide +kernel, by decide +kernel, by decide +kernel⟩ ⟨by decide, by decide⟩ rfl)) (ok_lf (ok_IfNe d_X5_ahead_42 (by decide) rfl))) (ok_nd (ok_lf (ok_ALdn d_X5_ahead_45 rfl rfl)) (ok_nd (ok_lf (ok_Ldc d_X5_ahead_46 q781 rfl)) (ok_lf (ok_CaV su_X5_finding (by decide) rfl d_X5_ahead_48 q782 q784 z56 q6 q785 ⟨by decide +kernel, by decide +kernel, by decide +kernel⟩ ⟨by decide, by decide⟩ rfl))))) (ok_nd (ok_nd (ok_lf (ok_IRet d_X5_ahead_51)) (ok_lf (ok_ALdn d_X5_ahead_52 rfl rfl))) (ok_nd (ok_lf (ok_GetR (by decide) (by decide) rfl d_X5_ahead_53 q703 rfl)) (ok_nd (ok_lf (ok_ALdn d_X5_ahead_56 rfl rfl)) (ok_lf (ok_GetR (by decide) (by decide) rfl d_X5_ahead_57 q705 rfl)))))) (ok_nd (ok_nd (ok_nd (ok_lf (ok_CaS su_X5_copyRow d_X5_ahead_60 q939 q940 q6 q941 ⟨by decide +kernel, by decide +kernel, by decide +kernel⟩ ⟨by decide, by decide⟩ rfl)) (ok_lf (ok_ALdn d_X5_ahead_63 rfl rfl))) (ok_nd (ok_lf (ok_ILdn d_X5_ahead_64 rfl rfl)) (ok_nd (ok_lf (ok_CaV su_X5_dropsGo (by decide) rfl d_X5_ahead_65 q895 q897 z70 q6 q898 ⟨by decide +kernel, by decide +kernel, by decide +kernel⟩ ⟨by decide, by decide⟩ rfl)) (ok_lf (ok_ALdn d_X5_ahead_68 rfl rfl))))) (ok_nd (ok_nd (ok_lf (ok_ALdn d_X5_ahead_69 rfl rfl)) (ok_nd (ok_lf (ok_ILdn d_X5_ahead_70 rfl rfl)) (ok_lf (ok_ILdn d_X5_ahead_71 rfl rfl)))) (ok_nd (ok_lf (ok_CaV su_X5_told (by decide) rfl d_X5_ahead_72 q827 q829 z59 q6 q830 ⟨by decide +kernel, by decide +kernel, by decide +kernel⟩ ⟨by decide, by decide⟩ rfl)) (ok_nd (ok_lf (ok_CaV su_X5_putBack (by decide) rfl d_X5_ahead_75 q942 q944 z79 q6 q945 ⟨by decide +kernel, by decide +kernel, by decide +kernel⟩ ⟨by decide, by decide⟩ rfl)) (ok_lf (ok_IRet d_X5_ahead_78)))))))
noncomputable def S_X5_ahead : Sem := lockS (inl P_X5_ahead 44 5) 0
theorem su_X5_ahead {l : Launch} {G : Gm} : SemU l G yX5_ahead (wsOf yX5_ahead cX5_ahead 5 (some .int)) 9 S_X5_ahead := sem_lock (sem_inl 44 (by decide +kernel) rfl ok_X5_ahead)
theorem d_X5_dropsTo_0 : decode cX5_dropsTo 0 = .ok (.aload_n 0, 1) := by decide +kernel
theorem d_X5_dropsTo_1 : decode cX5_dropsTo 1 = .ok (.getfield 9, 3) := by decide +kernel
theorem d_X5_dropsTo_4 : decode cX5_dropsTo 4 = .ok (.aload_n 0, 1) := by decide +kernel
theorem d_X5_dropsTo_5 : decode cX5_dropsTo 5 = .ok (.getfield 16, 3) := by decide +kernel
theorem d_X5_dropsTo_8 : decode cX5_dropsTo 8 = .ok (.invokestatic 61, 3) := by decide +kernel
theorem d_X5_dropsTo_11 : decode cX5_dropsTo 11 = .ok (.iconst 0, 1) := by decide +kernel
theorem d_X5_dropsTo_12 : decode cX5_dropsTo 12 = .ok (.istore_n 3, 1) := by decide +kernel
theorem d_X5_dropsTo_13 : decode cX5_dropsTo 13 = .ok (.iload_n 3, 1) := by decide +kernel
theorem d_X5_dropsTo_14 : decode cX5_dropsTo 14 = .ok (.sipush 200, 3) := by decide +kernel
theorem d_X5_dropsTo_17 : decode cX5_dropsTo 17 = .ok (.if_icmp .ge 23, 3) := by decide +kernel
theorem d_X5_dropsTo_20 : decode cX5_dropsTo 20 = .ok (.aload_n 0, 1) := by decide +kernel
theorem d_X5_dropsTo_21 : decode cX5_dropsTo 21 = .ok (.getfield 9, 3) := by decide +kernel
theorem d_X5_dropsTo_24 : decode cX5_dropsTo 24 = .ok (.iload_n 1, 1) := by decide +kernel
theorem d_X5_dropsTo_25 : decode cX5_dropsTo 25 = .ok (.iaload, 1) := by decide +kernel
theorem d_X5_dropsTo_26 : decode cX5_dropsTo 26 = .ok (.iload_n 2, 1) := by decide +kernel
theorem d_X5_dropsTo_27 : decode cX5_dropsTo 27 = .ok (.if_icmp .ge 13, 3) := by decide +kernel
theorem d_X5_dropsTo_30 : decode cX5_dropsTo 30 = .ok (.aload_n 0, 1) := by decide +kernel
theorem d_X5_dropsTo_31 : decode cX5_dropsTo 31 = .ok (.invokevirtual 156, 3) := by decide +kernel
theorem d_X5_dropsTo_34 : decode cX5_dropsTo 34 = .ok (.iinc 3 1, 3) := by decide +kernel
theorem d_X5_dropsTo_37 : decode cX5_dropsTo 37 = .ok (.goto (-24), 3) := by decide +kernel
theorem d_X5_dropsTo_40 : decode cX5_dropsTo 40 = .ok (.aload_n 0, 1) := by decide +kernel
theorem d_X5_dropsTo_41 : decode cX5_dropsTo 41 = .ok (.aload_n 0, 1) := by decide +kernel
theorem d_X5_dropsTo_42 : decode cX5_dropsTo 42 = .ok (.getfield 9, 3) := by decide +kernel
theorem d_X5_dropsTo_45 : decode cX5_dropsTo 45 = .ok (.iload_n 1, 1) := by decide +kernel
theorem d_X5_dropsTo_46 : decode cX5_dropsTo 46 = .ok (.iaload, 1) := by decide +kernel
theorem d_X5_dropsTo_47 : decode cX5_dropsTo 47 = .ok (.iload_n 2, 1) := by decide +kernel
theorem d_X5_dropsTo_48 : decode cX5_dropsTo 48 = .ok (.if_icmp .ge 7, 3) := by decide +kernel
theorem d_X5_dropsTo_51 : decode cX5_dropsTo 51 = .ok (.iconst (-1), 1) := by decide +kernel
theorem d_X5_dropsTo_52 : decode cX5_dropsTo 52 = .ok (.goto 4, 3) := by decide +kernel
theorem d_X5_dropsTo_55 : decode cX5_dropsTo 55 = .ok (.iload_n 3, 1) := by decide +kernel
theorem d_X5_dropsTo_56 : decode cX5_dropsTo 56 = .ok (.invokevirtual 177, 3) := by decide +kernel
theorem d_X5_dropsTo_59 : decode cX5_dropsTo 59 = .ok (.ireturn, 1) := by decide +kernel
noncomputable def P_X5_dropsTo : Nat → Op := fun pc => nd 30 pc (nd 14 pc (nd 8 pc (nd 4 pc (nd 1 pc (lf 0 pc (oALd 0 1)) (lf 1 pc (oGetR 5 0 4))) (nd 5 pc (lf 4 pc (oALd 0 5)) (lf 5 pc (oGetR 5 2 8)))) (nd 12 pc (nd 11 pc (lf 8 pc (oCaS 2 S_X5_copyRow 11)) (lf 11 pc (oCst 0 12))) (nd 13 pc (lf 12 pc (oISt 3 13)) (lf 13 pc (lockO (oILd 3 14) 0))))) (nd 24 pc (nd 20 pc (nd 17 pc (lf 14 pc (oCst 200 17)) (lf 17 pc (oCpLt 20 40))) (nd 21 pc (lf 20 pc (oALd 0 21)) (lf 21 pc (oGetR 5 0 24)))) (nd 26 pc (nd 25 pc (lf 24 pc (oILd 1 25)) (lf 25 pc (oIAL 26))) (nd 27 pc (lf 26 pc (oILd 2 27)) (lf 27 pc (oCpLt 30 40)))))) (nd 46 pc (nd 40 pc (nd 34 pc (nd 31 pc (lf 30 pc (oALd 0 31)) (lf 31 pc (oCaV 1 5 S_X5_drop 34))) (nd 37 pc (lf 34 pc (oInc 3 1 37)) (lf 37 pc (oGo 13)))) (nd 42 pc (nd 41 pc (lf 40 pc (oALd 0 41)) (lf 41 pc (oALd 0 42))) (nd 45 pc (lf 42 pc (oGetR 5 0 45)) (lf 45 pc (oILd 1 46))))) (nd 52 pc (nd 48 pc (nd 47 pc (lf 46 pc (oIAL 47)) (lf 47 pc (oILd 2 48))) (nd 51 pc (lf 48 pc (oCpLt 51 55)) (lf 51 pc (oCst (-1) 52)))) (nd 56 pc (nd 55 pc (lf 52 pc (oGo 56)) (lf 55 pc (oILd 3 56))) (nd 59 pc (lf 56 pc (oCaV 2 5 S_X5_putBack 59)) (lf 59 pc (oIRet))))))
theorem ok_X5_dropsTo {l : Launch} {G : Gm} : ∀ pc, OkU (TXm l G (rmD 8) 4 cX5_dropsTo RX5) (RXm l G (rmD 8) 4 cX5_dropsTo RX5 (some .int)) pc (P_X5_dropsTo pc) := fun pc => ok_nd (ok_nd (ok_nd (ok_nd (ok_nd (ok_lf (ok_ALdn d_X5_dropsTo_0 rfl rfl)) (ok_lf (ok_GetR (by decide) (by decide) rfl d_X5_dropsTo_1 q703 rfl))) (ok_nd (ok_lf (ok_ALdn d_X5_dropsTo_4 rfl rfl)) (ok_lf (ok_GetR (by decide) (by decide) rfl d_X5_dropsTo_5 q705 rfl)))) (ok_nd (ok_nd (ok_lf (ok_CaS su_X5_copyRow d_X5_dropsTo_8 q939 q940 q6 q941 ⟨by decide +kernel, by decide +kernel, by decide +kernel⟩ ⟨by decide, by decide⟩ rfl)) (ok_lf (ok_ICst d_X5_dropsTo_11 (by decide) rfl))) (ok_nd (ok_lf (ok_IStn d_X5_dropsTo_12 rfl rfl)) (ok_lf (ok_lk (ok_ILdn d_X5_dropsTo_13 rfl rfl)))))) (ok_nd (ok_nd (ok_nd (ok_lf (ok_SCst d_X5_dropsTo_14 (by decide) rfl)) (ok_lf (ok_CpGe d_X5_dropsTo_17 (by decide) rfl))) (ok_nd (ok_lf (ok_ALdn d_X5_dropsTo_20 rfl rfl)) (ok_lf (ok_GetR (by decide) (by decide) rfl d_X5_dropsTo_21 q703 rfl)))) (ok_nd (ok_nd (ok_lf (ok_ILdn d_X5_dropsTo_24 rfl rfl)) (ok_lf (ok_IAL d_X5_dropsTo_25 rfl))) (ok_nd (ok_lf (ok_ILdn d_X5_dropsTo_26 rfl rfl)) (ok_lf (ok_CpGe d_X5_dropsTo_27 (by decide) rfl)))))) (ok_nd (ok_nd (ok_nd (ok_nd (ok_lf (ok_ALdn d_X5_dropsTo_30 rfl rfl)) (ok_lf (ok_CaV su_X5_drop (by decide) rfl d_X5_dropsTo_31 q899 q901 z71 q6 q902 ⟨by decide +kernel, by decide +kernel, by decide +kernel⟩ ⟨by decide, by decide⟩ rfl))) (ok_nd (ok_lf (ok_Inc d_X5_dropsTo_34 (by decide) rfl)) (ok_lf (ok_Go d_X5_dropsTo_37 (by decide))))) (ok_nd (ok_nd (ok_lf (ok_ALdn d_X5_dropsTo_40 rfl rfl)) (ok_lf (ok_ALdn d_X5_dropsTo_41 rfl rfl))) (ok_nd (ok_lf (ok_GetR (by decide) (by decide) rfl d_X5_dropsTo_42 q703 rfl)) (ok_lf (ok_ILdn d_X5_dropsTo_45 rfl rfl))))) (ok_nd (ok_nd (ok_nd (ok_lf (ok_IAL d_X5_dropsTo_46 rfl)) (ok_lf (ok_ILdn d_X5_dropsTo_47 rfl rfl))) (ok_nd (ok_lf (ok_CpGe d_X5_dropsTo_48 (by decide) rfl)) (ok_lf (ok_ICst d_X5_dropsTo_51 (by decide) rfl)))) (ok_nd (ok_nd (ok_lf (ok_Go d_X5_dropsTo_52 (by decide))) (ok_lf (ok_ILdn d_X5_dropsTo_55 rfl rfl))) (ok_nd (ok_lf (ok_CaV su_X5_putBack (by decide) rfl d_X5_dropsTo_56 q942 q944 z79 q6 q945 ⟨by decide +kernel, by decide +kernel, by decide +kernel⟩ ⟨by decide, by decide⟩ rfl)) (ok_lf (ok_IRet d_X5_dropsTo_59))))))
noncomputable def S_X5_dropsTo : Sem := lockS (inl P_X5_dropsTo 30000 4) 0
theorem su_X5_dropsTo {l : Launch} {G : Gm} : SemU l G yX5_dropsTo (wsOf yX5_dropsTo cX5_dropsTo 4 (some .int)) 8 S_X5_dropsTo := sem_lock (sem_inl 30000 (by decide +kernel) rfl ok_X5_dropsTo)
theorem d_X5_wrong_0 : decode cX5_wrong 0 = .ok (.aload_n 0, 1) := by decide +kernel
theorem d_X5_wrong_1 : decode cX5_wrong 1 = .ok (.iload_n 1, 1) := by decide +kernel
theorem d_X5_wrong_2 : decode cX5_wrong 2 = .ok (.invokevirtual 121, 3) := by decide +kernel
theorem d_X5_wrong_5 : decode cX5_wrong 5 = .ok (.ifCond .eq 31, 3) := by decide +kernel
theorem d_X5_wrong_8 : decode cX5_wrong 8 = .ok (.iload_n 2, 1) := by decide +kernel
theorem d_X5_wrong_9 : decode cX5_wrong 9 = .ok (.iconst 0, 1) := by decide +kernel
theorem d_X5_wrong_10 : decode cX5_wrong 10 = .ok (.sipush 9999, 3) := by decide +kernel
theorem d_X5_wrong_13 : decode cX5_wrong 13 = .ok (.invokestatic 70, 3) := by decide +kernel
theorem d_X5_wrong_16 : decode cX5_wrong 16 = .ok (.ifCond .eq 20, 3) := by decide +kernel
theorem d_X5_wrong_19 : decode cX5_wrong 19 = .ok (.aload_n 0, 1) := by decide +kernel
theorem d_X5_wrong_20 : decode cX5_wrong 20 = .ok (.aload_n 0, 1) := by decide +kernel
theorem d_X5_wrong_21 : decode cX5_wrong 21 = .ok (.iload_n 1, 1) := by decide +kernel
theorem d_X5_wrong_22 : decode cX5_wrong 22 = .ok (.iconst 3, 1) := by decide +kernel
theorem d_X5_wrong_23 : decode cX5_wrong 23 = .ok (.invokestatic 85, 3) := by decide +kernel
theorem d_X5_wrong_26 : decode cX5_wrong 26 = .ok (.iload_n 2, 1) := by decide +kernel
theorem d_X5_wrong_27 : decode cX5_wrong 27 = .ok (.invokevirtual 180, 3) := by decide +kernel
theorem d_X5_wrong_30 : decode cX5_wrong 30 = .ok (.invokevirtual 140, 3) := by decide +kernel
theorem d_X5_wrong_33 : decode cX5_wrong 33 = .ok (.goto 9, 3) := by decide +kernel
theorem d_X5_wrong_36 : decode cX5_wrong 36 = .ok (.aload_n 0, 1) := by decide +kernel
theorem d_X5_wrong_37 : decode cX5_wrong 37 = .ok (.ldc 60, 2) := by decide +kernel
theorem d_X5_wrong_39 : decode cX5_wrong 39 = .ok (.invokevirtual 66, 3) := by decide +kernel
theorem d_X5_wrong_42 : decode cX5_wrong 42 = .ok (.ireturn, 1) := by decide +kernel
noncomputable def P_X5_wrong : Nat → Op := fun pc => nd 21 pc (nd 9 pc (nd 2 pc (nd 1 pc (lf 0 pc (oALd 0 1)) (lf 1 pc (oILd 1 2))) (nd 5 pc (lf 2 pc (oCaV 2 5 S_X5_isDisputant 5)) (nd 8 pc (lf 5 pc (oIfEq 36 8)) (lf 8 pc (oILd 2 9))))) (nd 16 pc (nd 10 pc (lf 9 pc (oCst 0 10)) (nd 13 pc (lf 10 pc (oCst 9999 13)) (lf 13 pc (oCaS 3 S_X5_within 16)))) (nd 19 pc (lf 16 pc (oIfEq 36 19)) (nd 20 pc (lf 19 pc (oALd 0 20)) (lf 20 pc (oALd 0 21)))))) (nd 30 pc (nd 23 pc (nd 22 pc (lf 21 pc (oILd 1 22)) (lf 22 pc (oCst 3 23))) (nd 26 pc (lf 23 pc (oCaS 2 S_X5_disputantAt 26)) (nd 27 pc (lf 26 pc (oILd 2 27)) (lf 27 pc (oCaV 3 5 S_X5_dropsTo 30))))) (nd 37 pc (nd 33 pc (lf 30 pc (oCaV 2 5 S_X5_orNone 33)) (nd 36 pc (lf 33 pc (oGo 42)) (lf 36 pc (oALd 0 37)))) (nd 39 pc (lf 37 pc (oCst (-1000001) 39)) (nd 42 pc (lf 39 pc (oCaV 2 5 S_X5_finding 42)) (lf 42 pc (oIRet))))))
theorem ok_X5_wrong {l : Launch} {G : Gm} : ∀ pc, OkU (TXm l G (rmD 9) 3 cX5_wrong RX5) (RXm l G (rmD 9) 3 cX5_wrong RX5 (some .int)) pc (P_X5_wrong pc) := fun pc => ok_nd (ok_nd (ok_nd (ok_nd (ok_lf (ok_ALdn d_X5_wrong_0 rfl rfl)) (ok_lf (ok_ILdn d_X5_wrong_1 rfl rfl))) (ok_nd (ok_lf (ok_CaV su_X5_isDisputant (by decide) rfl d_X5_wrong_2 q823 q825 z58 q6 q826 ⟨by decide +kernel, by decide +kernel, by decide +kernel⟩ ⟨by decide, by decide⟩ rfl)) (ok_nd (ok_lf (ok_IfEq d_X5_wrong_5 (by decide) rfl)) (ok_lf (ok_ILdn d_X5_wrong_8 rfl rfl))))) (ok_nd (ok_nd (ok_lf (ok_ICst d_X5_wrong_9 (by decide) rfl)) (ok_nd (ok_lf (ok_SCst d_X5_wrong_10 (by decide) rfl)) (ok_lf (ok_CaS su_X5_within d_X5_wrong_13 q774 q775 q6 q776 ⟨by decide +kernel, by decide +kernel, by decide +kernel⟩ ⟨by decide, by decide⟩ rfl)))) (ok_nd (ok_lf (ok_IfEq d_X5_wrong_16 (by decide) rfl)) (ok_nd (ok_lf (ok_ALdn d_X5_wrong_19 rfl rfl)) (ok_lf (ok_ALdn d_X5_wrong_20 rfl rfl)))))) (ok_nd (ok_nd (ok_nd (ok_lf (ok_ILdn d_X5_wrong_21 rfl rfl)) (ok_lf (ok_ICst d_X5_wrong_22 (by decide) rfl))) (ok_nd (ok_lf (ok_CaS su_X5_disputantAt d_X5_wrong_23 q816 q817 q6 q818 ⟨by decide +kernel, by decide +kernel, by decide +kernel⟩ ⟨by decide, by decide⟩ rfl)) (ok_nd (ok_lf (ok_ILdn d_X5_wrong_26 rfl rfl)) (ok_lf (ok_CaV su_X5_dropsTo (by decide) rfl d_X5_wrong_27 q950 q952 z80 q6 q953 ⟨by decide +kernel, by decide +kernel, by decide +kernel⟩ ⟨by decide, by decide⟩ rfl))))) (ok_nd (ok_nd (ok_lf (ok_CaV su_X5_orNone (by decide) rfl d_X5_wrong_30 q884 q886 z69 q6 q887 ⟨by decide +kernel, by decide +kernel, by decide +kernel⟩ ⟨by decide, by decide⟩ rfl)) (ok_nd (ok_lf (ok_Go d_X5_wrong_33 (by decide))) (ok_lf (ok_ALdn d_X5_wrong_36 rfl rfl)))) (ok_nd (ok_lf (ok_Ldc d_X5_wrong_37 q781 rfl)) (ok_nd (ok_lf (ok_CaV su_X5_finding (by decide) rfl d_X5_wrong_39 q782 q784 z56 q6 q785 ⟨by decide +kernel, by decide +kernel, by decide +kernel⟩ ⟨by decide, by decide⟩ rfl)) (ok_lf (ok_IRet d_X5_wrong_42))))))
noncomputable def S_X5_wrong : Sem := lockS (inl P_X5_wrong 24 3) 0
theorem su_X5_wrong {l : Launch} {G : Gm} : SemU l G yX5_wrong (wsOf yX5_wrong cX5_wrong 3 (some .int)) 9 S_X5_wrong := sem_lock (sem_inl 24 (by decide +kernel) rfl ok_X5_wrong)
theorem d_X5_right_0 : decode cX5_right 0 = .ok (.aload_n 0, 1) := by decide +kernel
theorem d_X5_right_1 : decode cX5_right 1 = .ok (.iload_n 1, 1) := by decide +kernel
theorem d_X5_right_2 : decode cX5_right 2 = .ok (.invokevirtual 121, 3) := by decide +kernel
theorem d_X5_right_5 : decode cX5_right 5 = .ok (.ifCond .eq 31, 3) := by decide +kernel
theorem d_X5_right_8 : decode cX5_right 8 = .ok (.iload_n 2, 1) := by decide +kernel
theorem d_X5_right_9 : decode cX5_right 9 = .ok (.iconst 0, 1) := by decide +kernel
theorem d_X5_right_10 : decode cX5_right 10 = .ok (.sipush 9999, 3) := by decide +kernel
theorem d_X5_right_13 : decode cX5_right 13 = .ok (.invokestatic 70, 3) := by decide +kernel
theorem d_X5_right_16 : decode cX5_right 16 = .ok (.ifCond .eq 20, 3) := by decide +kernel
theorem d_X5_right_19 : decode cX5_right 19 = .ok (.aload_n 0, 1) := by decide +kernel
theorem d_X5_right_20 : decode cX5_right 20 = .ok (.aload_n 0, 1) := by decide +kernel
theorem d_X5_right_21 : decode cX5_right 21 = .ok (.iload_n 1, 1) := by decide +kernel
theorem d_X5_right_22 : decode cX5_right 22 = .ok (.iconst 4, 1) := by decide +kernel
theorem d_X5_right_23 : decode cX5_right 23 = .ok (.invokestatic 85, 3) := by decide +kernel
theorem d_X5_right_26 : decode cX5_right 26 = .ok (.iload_n 2, 1) := by decide +kernel
theorem d_X5_right_27 : decode cX5_right 27 = .ok (.invokevirtual 180, 3) := by decide +kernel
theorem d_X5_right_30 : decode cX5_right 30 = .ok (.invokevirtual 140, 3) := by decide +kernel
theorem d_X5_right_33 : decode cX5_right 33 = .ok (.goto 9, 3) := by decide +kernel
theorem d_X5_right_36 : decode cX5_right 36 = .ok (.aload_n 0, 1) := by decide +kernel
theorem d_X5_right_37 : decode cX5_right 37 = .ok (.ldc 60, 2) := by decide +kernel
theorem d_X5_right_39 : decode cX5_right 39 = .ok (.invokevirtual 66, 3) := by decide +kernel
theorem d_X5_right_42 : decode cX5_right 42 = .ok (.ireturn, 1) := by decide +kernel
noncomputable def P_X5_right : Nat → Op := fun pc => nd 21 pc (nd 9 pc (nd 2 pc (nd 1 pc (lf 0 pc (oALd 0 1)) (lf 1 pc (oILd 1 2))) (nd 5 pc (lf 2 pc (oCaV 2 5 S_X5_isDisputant 5)) (nd 8 pc (lf 5 pc (oIfEq 36 8)) (lf 8 pc (oILd 2 9))))) (nd 16 pc (nd 10 pc (lf 9 pc (oCst 0 10)) (nd 13 pc (lf 10 pc (oCst 9999 13)) (lf 13 pc (oCaS 3 S_X5_within 16)))) (nd 19 pc (lf 16 pc (oIfEq 36 19)) (nd 20 pc (lf 19 pc (oALd 0 20)) (lf 20 pc (oALd 0 21)))))) (nd 30 pc (nd 23 pc (nd 22 pc (lf 21 pc (oILd 1 22)) (lf 22 pc (oCst 4 23))) (nd 26 pc (lf 23 pc (oCaS 2 S_X5_disputantAt 26)) (nd 27 pc (lf 26 pc (oILd 2 27)) (lf 27 pc (oCaV 3 5 S_X5_dropsTo 30))))) (nd 37 pc (nd 33 pc (lf 30 pc (oCaV 2 5 S_X5_orNone 33)) (nd 36 pc (lf 33 pc (oGo 42)) (lf 36 pc (oALd 0 37)))) (nd 39 pc (lf 37 pc (oCst (-1000001) 39)) (nd 42 pc (lf 39 pc (oCaV 2 5 S_X5_finding 42)) (lf 42 pc (oIRet))))))
theorem ok_X5_right {l : Launch} {G : Gm} : ∀ pc, OkU (TXm l G (rmD 9) 3 cX5_right RX5) (RXm l G (rmD 9) 3 cX5_right RX5 (some .int)) pc (P_X5_right pc) := fun pc => ok_nd (ok_nd (ok_nd (ok_nd (ok_lf (ok_ALdn d_X5_right_0 rfl rfl)) (ok_lf (ok_ILdn d_X5_right_1 rfl rfl))) (ok_nd (ok_lf (ok_CaV su_X5_isDisputant (by decide) rfl d_X5_right_2 q823 q825 z58 q6 q826 ⟨by decide +kernel, by decide +kernel, by decide +kernel⟩ ⟨by decide, by decide⟩ rfl)) (ok_nd (ok_lf (ok_IfEq d_X5_right_5 (by decide) rfl)) (ok_lf (ok_ILdn d_X5_right_8 rfl rfl))))) (ok_nd (ok_nd (ok_lf (ok_ICst d_X5_right_9 (by decide) rfl)) (ok_nd (ok_lf (ok_SCst d_X5_right_10 (by decide) rfl)) (ok_lf (ok_CaS su_X5_within d_X5_right_13 q774 q775 q6 q776 ⟨by decide +kernel, by decide +kernel, by decide +kernel⟩ ⟨by decide, by decide⟩ rfl)))) (ok_nd (ok_lf (ok_IfEq d_X5_right_16 (by decide) rfl)) (ok_nd (ok_lf (ok_ALdn d_X5_right_19 rfl rfl)) (ok_lf (ok_ALdn d_X5_right_20 rfl rfl)))))) (ok_nd (ok_nd (ok_nd (ok_lf (ok_ILdn d_X5_right_21 rfl rfl)) (ok_lf (ok_ICst d_X5_right_22 (by decide) rfl))) (ok_nd (ok_lf (ok_CaS su_X5_disputantAt d_X5_right_23 q816 q817 q6 q818 ⟨by decide +kernel, by decide +kernel, by decide +kernel⟩ ⟨by decide, by decide⟩ rfl)) (ok_nd (ok_lf (ok_ILdn d_X5_right_26 rfl rfl)) (ok_lf (ok_CaV su_X5_dropsTo (by decide) rfl d_X5_right_27 q950 q952 z80 q6 q953 ⟨by decide +kernel, by decide +kernel, by decide +kernel⟩ ⟨by decide, by decide⟩ rfl))))) (ok_nd (ok_nd (ok_lf (ok_CaV su_X5_orNone (by decide) rfl d_X5_right_30 q884 q886 z69 q6 q887 ⟨by decide +kernel, by decide +kernel, by decide +kernel⟩ ⟨by decide, by decide⟩ rfl)) (ok_nd (ok_lf (ok_Go d_X5_right_33 (by decide))) (ok_lf (ok_ALdn d_X5_right_36 rfl rfl)))) (ok_nd (ok_lf (ok_Ldc d_X5_right_37 q781 rfl)) (ok_nd (ok_lf (ok_CaV su_X5_finding (by decide) rfl d_X5_right_39 q782 q784 z56 q6 q785 ⟨by decide +kernel, by decide +kernel, by decide +kernel⟩ ⟨by decide, by decide⟩ rfl)) (ok_lf (ok_IRet d_X5_right_42))))))
noncomputable def S_X5_right : Sem := lockS (inl P_X5_right 24 3) 0
theorem su_X5_right {l : Launch} {G : Gm} : SemU l G yX5_right (wsOf yX5_right cX5_right 3 (some .int)) 9 S_X5_right := sem_lock (sem_inl 24 (by decide +kernel) rfl ok_X5_right)
theorem d_X5_stands_0 : decode cX5_stands 0 = .ok (.aload_n 0, 1) := by decide +kernel
theorem d_X5_stands_1 : decode cX5_stands 1 = .ok (.aload_n 0, 1) := by decide +kernel
theorem d_X5_stands_2 : decode cX5_stands 2 = .ok (.iconst 5, 1) := by decide +kernel
theorem d_X5_stands_3 : decode cX5_stands 3 = .ok (.aload_n 0, 1) := by decide +kernel
theorem d_X5_stands_4 : decode cX5_stands 4 = .ok (.getfield 9, 3) := by decide +kernel
theorem d_X5_stands_7 : decode cX5_stands 7 = .ok (.iconst 5, 1) := by decide +kernel
theorem d_X5_stands_8 : decode cX5_stands 8 = .ok (.iaload, 1) := by decide +kernel
theorem d_X5_stands_9 : decode cX5_stands 9 = .ok (.iconst 1, 1) := by decide +kernel
theorem d_X5_stands_10 : decode cX5_stands 10 = .ok (.iadd, 1) := by decide +kernel
theorem d_X5_stands_11 : decode cX5_stands 11 = .ok (.invokevirtual 180, 3) := by decide +kernel
theorem d_X5_stands_14 : decode cX5_stands 14 = .ok (.invokevirtual 140, 3) := by decide +kernel
theorem d_X5_stands_17 : decode cX5_stands 17 = .ok (.ireturn, 1) := by decide +kernel
noncomputable def P_X5_stands : Nat → Op := fun pc => nd 8 pc (nd 3 pc (nd 1 pc (lf 0 pc (oALd 0 1)) (nd 2 pc (lf 1 pc (oALd 0 2)) (lf 2 pc (oCst 5 3)))) (nd 4 pc (lf 3 pc (oALd 0 4)) (nd 7 pc (lf 4 pc (oGetR 5 0 7)) (lf 7 pc (oCst 5 8))))) (nd 11 pc (nd 9 pc (lf 8 pc (oIAL 9)) (nd 10 pc (lf 9 pc (oCst 1 10)) (lf 10 pc (oBin (fun x y => x + y) 11)))) (nd 14 pc (lf 11 pc (oCaV 3 5 S_X5_dropsTo 14)) (nd 17 pc (lf 14 pc (oCaV 2 5 S_X5_orNone 17)) (lf 17 pc (oIRet)))))
theorem ok_X5_stands {l : Launch} {G : Gm} : ∀ pc, OkU (TXm l G (rmD 9) 1 cX5_stands RX5) (RXm l G (rmD 9) 1 cX5_stands RX5 (some .int)) pc (P_X5_stands pc) := fun pc => ok_nd (ok_nd (ok_nd (ok_lf (ok_ALdn d_X5_stands_0 rfl rfl)) (ok_nd (ok_lf (ok_ALdn d_X5_stands_1 rfl rfl)) (ok_lf (ok_ICst d_X5_stands_2 (by decide) rfl)))) (ok_nd (ok_lf (ok_ALdn d_X5_stands_3 rfl rfl)) (ok_nd (ok_lf (ok_GetR (by decide) (by decide) rfl d_X5_stands_4 q703 rfl)) (ok_lf (ok_ICst d_X5_stands_7 (by decide) rfl))))) (ok_nd (ok_nd (ok_lf (ok_IAL d_X5_stands_8 rfl)) (ok_nd (ok_lf (ok_ICst d_X5_stands_9 (by decide) rfl)) (ok_lf (ok_iadd d_X5_stands_10 rfl)))) (ok_nd (ok_lf (ok_CaV su_X5_dropsTo (by decide) rfl d_X5_stands_11 q950 q952 z80 q6 q953 ⟨by decide +kernel, by decide +kernel, by decide +kernel⟩ ⟨by decide, by decide⟩ rfl)) (ok_nd (ok_lf (ok_CaV su_X5_orNone (by decide) rfl d_X5_stands_14 q884 q886 z69 q6 q887 ⟨by decide +kernel, by decide +kernel, by decide +kernel⟩ ⟨by decide, by decide⟩ rfl)) (ok_lf (ok_IRet d_X5_stands_17)))))
noncomputable def S_X5_stands : Sem := lockS (inl P_X5_stands 14 1) 0
theorem su_X5_stands {l : Launch} {G : Gm} : SemU l G yX5_stands (wsOf yX5_stands cX5_stands 1 (some .int)) 9 S_X5_stands := sem_lock (sem_inl 14 (by decide +kernel) rfl ok_X5_stands)
theorem d_X5_calm_0 : decode cX5_calm 0 = .ok (.aload_n 0, 1) := by decide +kernel
theorem d_X5_calm_1 : decode cX5_calm 1 = .ok (.iload_n 1, 1) := by decide +kernel
theorem d_X5_calm_2 : decode cX5_calm 2 = .ok (.invokevirtual 121, 3) := by decide +kernel
theorem d_X5_calm_5 : decode cX5_calm 5 = .ok (.ifCond .eq 13, 3) := by decide +kernel
theorem d_X5_calm_8 : decode cX5_calm 8 = .ok (.iload_n 2, 1) := by decide +kernel
theorem d_X5_calm_9 : decode cX5_calm 9 = .ok (.iconst 0, 1) := by decide +kernel
theorem d_X5_calm_10 : decode cX5_calm 10 = .ok (.bipush 99, 2) := by decide +kernel
theorem d_X5_calm_12 : decode cX5_calm 12 = .ok (.invokestatic 70, 3) := by decide +kernel
theorem d_X5_calm_15 : decode cX5_calm 15 = .ok (.ifCond .ne 10, 3) := by decide +kernel
theorem d_X5_calm_18 : decode cX5_calm 18 = .ok (.aload_n 0, 1) := by decide +kernel
theorem d_X5_calm_19 : decode cX5_calm 19 = .ok (.ldc 60, 2) := by decide +kernel
theorem d_X5_calm_21 : decode cX5_calm 21 = .ok (.invokevirtual 66, 3) := by decide +kernel
theorem d_X5_calm_24 : decode cX5_calm 24 = .ok (.ireturn, 1) := by decide +kernel
theorem d_X5_calm_25 : decode cX5_calm 25 = .ok (.aload_n 0, 1) := by decide +kernel
theorem d_X5_calm_26 : decode cX5_calm 26 = .ok (.getfield 9, 3) := by decide +kernel
theorem d_X5_calm_29 : decode cX5_calm 29 = .ok (.aload_n 0, 1) := by decide +kernel
theorem d_X5_calm_30 : decode cX5_calm 30 = .ok (.getfield 16, 3) := by decide +kernel
theorem d_X5_calm_33 : decode cX5_calm 33 = .ok (.invokestatic 61, 3) := by decide +kernel
theorem d_X5_calm_36 : decode cX5_calm 36 = .ok (.iconst 0, 1) := by decide +kernel
theorem d_X5_calm_37 : decode cX5_calm 37 = .ok (.istore_n 3, 1) := by decide +kernel
theorem d_X5_calm_38 : decode cX5_calm 38 = .ok (.iload_n 3, 1) := by decide +kernel
theorem d_X5_calm_39 : decode cX5_calm 39 = .ok (.sipush 200, 3) := by decide +kernel
theorem d_X5_calm_42 : decode cX5_calm 42 = .ok (.if_icmp .ge 23, 3) := by decide +kernel
theorem d_X5_calm_45 : decode cX5_calm 45 = .ok (.aload_n 0, 1) := by decide +kernel
theorem d_X5_calm_46 : decode cX5_calm 46 = .ok (.iload_n 1, 1) := by decide +kernel
theorem d_X5_calm_47 : decode cX5_calm 47 = .ok (.iconst 2, 1) := by decide +kernel
theorem d_X5_calm_48 : decode cX5_calm 48 = .ok (.invokevirtual 95, 3) := by decide +kernel
theorem d_X5_calm_51 : decode cX5_calm 51 = .ok (.iload_n 2, 1) := by decide +kernel
theorem d_X5_calm_52 : decode cX5_calm 52 = .ok (.if_icmp .le 13, 3) := by decide +kernel
theorem d_X5_calm_55 : decode cX5_calm 55 = .ok (.aload_n 0, 1) := by decide +kernel
theorem d_X5_calm_56 : decode cX5_calm 56 = .ok (.invokevirtual 156, 3) := by decide +kernel
theorem d_X5_calm_59 : decode cX5_calm 59 = .ok (.iinc 3 1, 3) := by decide +kernel
theorem d_X5_calm_62 : decode cX5_calm 62 = .ok (.goto (-24), 3) := by decide +kernel
theorem d_X5_calm_65 : decode cX5_calm 65 = .ok (.aload_n 0, 1) := by decide +kernel
theorem d_X5_calm_66 : decode cX5_calm 66 = .ok (.aload_n 0, 1) := by decide +kernel
theorem d_X5_calm_67 : decode cX5_calm 67 = .ok (.aload_n 0, 1) := by decide +kernel
theorem d_X5_calm_68 : decode cX5_calm 68 = .ok (.iload_n 1, 1) := by decide +kernel
theorem d_X5_calm_69 : decode cX5_calm 69 = .ok (.iconst 2, 1) := by decide +kernel
theorem d_X5_calm_70 : decode cX5_calm 70 = .ok (.invokevirtual 95, 3) := by decide +kernel
theorem d_X5_calm_73 : decode cX5_calm 73 = .ok (.iload_n 2, 1) := by decide +kernel
theorem d_X5_calm_74 : decode cX5_calm 74 = .ok (.if_icmp .le 7, 3) := by decide +kernel
theorem d_X5_calm_77 : decode cX5_calm 77 = .ok (.iconst (-1), 1) := by decide +kernel
theorem d_X5_calm_78 : decode cX5_calm 78 = .ok (.goto 4, 3) := by decide +kernel
theorem d_X5_calm_81 : decode cX5_calm 81 = .ok (.iload_n 3, 1) := by decide +kernel
theorem d_X5_calm_82 : decode cX5_calm 82 = .ok (.invokevirtual 177, 3) := by decide +kernel
theorem d_X5_calm_85 : decode cX5_calm 85 = .ok (.invokevirtual 140, 3) := by decide +kernel
theorem d_X5_calm_88 : decode cX5_calm 88 = .ok (.ireturn, 1) := by decide +kernel
noncomputable def P_X5_calm : Nat → Op := fun pc => nd 45 pc (nd 21 pc (nd 9 pc (nd 2 pc (nd 1 pc (lf 0 pc (oALd 0 1)) (lf 1 pc (oILd 1 2))) (nd 5 pc (lf 2 pc (oCaV 2 5 S_X5_isDisputant 5)) (nd 8 pc (lf 5 pc (oIfEq 18 8)) (lf 8 pc (oILd 2 9))))) (nd 15 pc (nd 10 pc (lf 9 pc (oCst 0 10)) (nd 12 pc (lf 10 pc (oCst 99 12)) (lf 12 pc (oCaS 3 S_X5_within 15)))) (nd 18 pc (lf 15 pc (oIfEq 18 25)) (nd 19 pc (lf 18 pc (oALd 0 19)) (lf 19 pc (oCst (-1000001) 21)))))) (nd 33 pc (nd 26 pc (nd 24 pc (lf 21 pc (oCaV 2 5 S_X5_finding 24)) (nd 25 pc (lf 24 pc (oIRet)) (lf 25 pc (oALd 0 26)))) (nd 29 pc (lf 26 pc (oGetR 5 0 29)) (nd 30 pc (lf 29 pc (oALd 0 30)) (lf 30 pc (oGetR 5 2 33))))) (nd 38 pc (nd 36 pc (lf 33 pc (oCaS 2 S_X5_copyRow 36)) (nd 37 pc (lf 36 pc (oCst 0 37)) (lf 37 pc (oISt 3 38)))) (nd 39 pc (lf 38 pc (lockO (oILd 3 39) 0)) (nd 42 pc (lf 39 pc (oCst 200 42)) (lf 42 pc (oCpLt 45 65))))))) (nd 67 pc (nd 55 pc (nd 48 pc (nd 46 pc (lf 45 pc (oALd 0 46)) (nd 47 pc (lf 46 pc (oILd 1 47)) (lf 47 pc (oCst 2 48)))) (nd 51 pc (lf 48 pc (oCaV 3 5 S_X5_disputantIs 51)) (nd 52 pc (lf 51 pc (oILd 2 52)) (lf 52 pc (oCpGt 55 65))))) (nd 62 pc (nd 56 pc (lf 55 pc (oALd 0 56)) (nd 59 pc (lf 56 pc (oCaV 1 5 S_X5_drop 59)) (lf 59 pc (oInc 3 1 62)))) (nd 65 pc (lf 62 pc (oGo 38)) (nd 66 pc (lf 65 pc (oALd 0 66)) (lf 66 pc (oALd 0 67)))))) (nd 77 pc (nd 70 pc (nd 68 pc (lf 67 pc (oALd 0 68)) (nd 69 pc (lf 68 pc (oILd 1 69)) (lf 69 pc (oCst 2 70)))) (nd 73 pc (lf 70 pc (oCaV 3 5 S_X5_disputantIs 73)) (nd 74 pc (lf 73 pc (oILd 2 74)) (lf 74 pc (oCpGt 77 81))))) (nd 82 pc (nd 78 pc (lf 77 pc (oCst (-1) 78)) (nd 81 pc (lf 78 pc (oGo 82)) (lf 81 pc (oILd 3 82)))) (nd 85 pc (lf 82 pc (oCaV 2 5 S_X5_putBack 85)) (nd 88 pc (lf 85 pc (oCaV 2 5 S_X5_orNone 88)) (lf 88 pc (oIRet)))))))
theorem ok_X5_calm {l : Launch} {G : Gm} : ∀ pc, OkU (TXm l G (rmD 8) 4 cX5_calm RX5) (RXm l G (rmD 8) 4 cX5_calm RX5 (some .int)) pc (P_X5_calm pc) := fun pc => ok_nd (ok_nd (ok_nd (ok_nd (ok_nd (ok_lf (ok_ALdn d_X5_calm_0 rfl rfl)) (ok_lf (ok_ILdn d_X5_calm_1 rfl rfl))) (ok_nd (ok_lf (ok_CaV su_X5_isDisputant (by decide) rfl d_X5_calm_2 q823 q825 z58 q6 q826 ⟨by decide +kernel, by decide +kernel, by decide +kernel⟩ ⟨by decide, by decide⟩ rfl)) (ok_nd (ok_lf (ok_IfEq d_X5_calm_5 (by decide) rfl)) (ok_lf (ok_ILdn d_X5_calm_8 rfl rfl))))) (ok_nd (ok_nd (ok_lf (ok_ICst d_X5_calm_9 (by decide) rfl)) (ok_nd (ok_lf (ok_BCst d_X5_calm_10 (by decide) rfl)) (ok_lf (ok_CaS su_X5_within d_X5_calm_12 q774 q775 q6 q776 ⟨by decide +kernel, by decide +kernel, by decide +kernel⟩ ⟨by decide, by decide⟩ rfl)))) (ok_nd (ok_lf (ok_IfNe d_X5_calm_15 (by decide) rfl)) (ok_nd (ok_lf (ok_ALdn d_X5_calm_18 rfl rfl)) (ok_lf (ok_Ldc d_X5_calm_19 q781 rfl)))))) (ok_nd (ok_nd (ok_nd (ok_lf (ok_CaV su_X5_finding (by decide) rfl d_X5_calm_21 q782 q784 z56 q6 q785 ⟨by decide +kernel, by decide +kernel, by decide +kernel⟩ ⟨by decide, by decide⟩ rfl)) (ok_nd (ok_lf (ok_IRet d_X5_calm_24)) (ok_lf (ok_ALdn d_X5_calm_25 rfl rfl)))) (ok_nd (ok_lf (ok_GetR (by decide) (by decide) rfl d_X5_calm_26 q703 rfl)) (ok_nd (ok_lf (ok_ALdn d_X5_calm_29 rfl rfl)) (ok_lf (ok_GetR (by decide) (by decide) rfl d_X5_calm_30 q705 rfl))))) (ok_nd (ok_nd (ok_lf (ok_CaS su_X5_copyRow d_X5_calm_33 q939 q940 q6 q941 ⟨by decide +kernel, by decide +kernel, by decide +kernel⟩ ⟨by decide, by decide⟩ rfl)) (ok_nd (ok_lf (ok_ICst d_X5_calm_36 (by decide) rfl)) (ok_lf (ok_IStn d_X5_calm_37 rfl rfl)))) (ok_nd (ok_lf (ok_lk (ok_ILdn d_X5_calm_38 rfl rfl))) (ok_nd (ok_lf (ok_SCst d_X5_calm_39 (by decide) rfl)) (ok_lf (ok_CpGe d_X5_calm_42 (by decide) rfl))))))) (ok_nd (ok_nd (ok_nd (ok_nd (ok_lf (ok_ALdn d_X5_calm_45 rfl rfl)) (ok_nd (ok_lf (ok_ILdn d_X5_calm_46 rfl rfl)) (ok_lf (ok_ICst d_X5_calm_47 (by decide) rfl)))) (ok_nd (ok_lf (ok_CaV su_X5_disputantIs (by decide) rfl d_X5_calm_48 q835 q837 z61 q6 q838 ⟨by decide +kernel, by decide +kernel, by decide +kernel⟩ ⟨by decide, by decide⟩ rfl)) (ok_nd (ok_lf (ok_ILdn d_X5_calm_51 rfl rfl)) (ok_lf (ok_CpLe d_X5_calm_52 (by decide) rfl))))) (ok_nd (ok_nd (ok_lf (ok_ALdn d_X5_calm_55 rfl rfl)) (ok_nd (ok_lf (ok_CaV su_X5_drop (by decide) rfl d_X5_calm_56 q899 q901 z71 q6 q902 ⟨by decide +kernel, by decide +kernel, by decide +kernel⟩ ⟨by decide, by decide⟩ rfl)) (ok_lf (ok_Inc d_X5_calm_59 (by decide) rfl)))) (ok_nd (ok_lf (ok_Go d_X5_calm_62 (by decide))) (ok_nd (ok_lf (ok_ALdn d_X5_calm_65 rfl rfl)) (ok_lf (ok_ALdn d_X5_calm_66 rfl rfl)))))) (ok_nd (ok_nd (ok_nd (ok_lf (ok_ALdn d_X5_calm_67 rfl rfl)) (ok_nd (ok_lf (ok_ILdn d_X5_calm_68 rfl rfl)) (ok_lf (ok_ICst d_X5_calm_69 (by decide) rfl)))) (ok_nd (ok_lf (ok_CaV su_X5_disputantIs (by decide) rfl d_X5_calm_70 q835 q837 z61 q6 q838 ⟨by decide +kernel, by decide +kernel, by decide +kernel⟩ ⟨by decide, by decide⟩ rfl)) (ok_nd (ok_lf (ok_ILdn d_X5_calm_73 rfl rfl)) (ok_lf (ok_CpLe d_X5_calm_74 (by decide) rfl))))) (ok_nd (ok_nd (ok_lf (ok_ICst d_X5_calm_77 (by decide) rfl)) (ok_nd (ok_lf (ok_Go d_X5_calm_78 (by decide))) (ok_lf (ok_ILdn d_X5_calm_81 rfl rfl)))) (ok_nd (ok_lf (ok_CaV su_X5_putBack (by decide) rfl d_X5_calm_82 q942 q944 z79 q6 q945 ⟨by decide +kernel, by decide +kernel, by decide +kernel⟩ ⟨by decide, by decide⟩ rfl)) (ok_nd (ok_lf (ok_CaV su_X5_orNone (by decide) rfl d_X5_calm_85 q884 q886 z69 q6 q887 ⟨by decide +kernel, by decide +kernel, by decide +kernel⟩ ⟨by decide, by decide⟩ rfl)) (ok_lf (ok_IRet d_X5_calm_88)))))))
noncomputable def S_X5_calm : Sem := lockS (inl P_X5_calm 30000 4) 0
theorem su_X5_calm {l : Launch} {G : Gm} : SemU l G yX5_calm (wsOf yX5_calm cX5_calm 4 (some .int)) 8 S_X5_calm := sem_lock (sem_inl 30000 (by decide +kernel) rfl ok_X5_calm)
theorem d_X5_isThought_0 : decode cX5_isThought 0 = .ok (.iload_n 0, 1) := by decide +kernel
theorem d_X5_isThought_1 : decode cX5_isThought 1 = .ok (.iconst 0, 1) := by decide +kernel
theorem d_X5_isThought_2 : decode cX5_isThought 2 = .ok (.bipush 60, 2) := by decide +kernel
theorem d_X5_isThought_4 : decode cX5_isThought 4 = .ok (.invokestatic 70, 3) := by decide +kernel
theorem d_X5_isThought_7 : decode cX5_isThought 7 = .ok (.ireturn, 1) := by decide +kernel
noncomputable def P_X5_isThought : Nat → Op := fun pc => nd 2 pc (nd 1 pc (lf 0 pc (oILd 0 1)) (lf 1 pc (oCst 0 2))) (nd 4 pc (lf 2 pc (oCst 60 4)) (nd 7 pc (lf 4 pc (oCaS 3 S_X5_within 7)) (lf 7 pc (oZRet))))
theorem ok_X5_isThought {l : Launch} {G : Gm} : ∀ pc, OkU (TXm l G (rmD 2) 1 cX5_isThought RX5) (RXm l G (rmD 2) 1 cX5_isThought RX5 (some .boolean)) pc (P_X5_isThought pc) := fun pc => ok_nd (ok_nd (ok_lf (ok_ILdn d_X5_isThought_0 rfl rfl)) (ok_lf (ok_ICst d_X5_isThought_1 (by decide) rfl))) (ok_nd (ok_lf (ok_BCst d_X5_isThought_2 (by decide) rfl)) (ok_nd (ok_lf (ok_CaS su_X5_within d_X5_isThought_4 q774 q775 q6 q776 ⟨by decide +kernel, by decide +kernel, by decide +kernel⟩ ⟨by decide, by decide⟩ rfl)) (ok_lf (ok_ZRet d_X5_isThought_7))))
noncomputable def S_X5_isThought : Sem := inl P_X5_isThought 7 1
theorem su_X5_isThought {l : Launch} {G : Gm} : SemU l G yX5_isThought (wsOf yX5_isThought cX5_isThought 1 (some .boolean)) 2 S_X5_isThought := sem_inl 7 (by decide +kernel) rfl ok_X5_isThought
theorem d_X5_heightFor_0 : decode cX5_heightFor 0 = .ok (.aload_n 0, 1) := by decide +kernel
theorem d_X5_heightFor_1 : decode cX5_heightFor 1 = .ok (.iload_n 1, 1) := by decide +kernel
theorem d_X5_heightFor_2 : decode cX5_heightFor 2 = .ok (.invokevirtual 121, 3) := by decide +kernel
theorem d_X5_heightFor_5 : decode cX5_heightFor 5 = .ok (.ifCond .eq 10, 3) := by decide +kernel
theorem d_X5_heightFor_8 : decode cX5_heightFor 8 = .ok (.iload_n 2, 1) := by decide +kernel
theorem d_X5_heightFor_9 : decode cX5_heightFor 9 = .ok (.invokestatic 183, 3) := by decide +kernel
theorem d_X5_heightFor_12 : decode cX5_heightFor 12 = .ok (.ifCond .ne 10, 3) := by decide +kernel
theorem d_X5_heightFor_15 : decode cX5_heightFor 15 = .ok (.aload_n 0, 1) := by decide +kernel
theorem d_X5_heightFor_16 : decode cX5_heightFor 16 = .ok (.ldc 60, 2) := by decide +kernel
theorem d_X5_heightFor_18 : decode cX5_heightFor 18 = .ok (.invokevirtual 66, 3) := by decide +kernel
theorem d_X5_heightFor_21 : decode cX5_heightFor 21 = .ok (.ireturn, 1) := by decide +kernel
theorem d_X5_heightFor_22 : decode cX5_heightFor 22 = .ok (.aload_n 0, 1) := by decide +kernel
theorem d_X5_heightFor_23 : decode cX5_heightFor 23 = .ok (.getfield 9, 3) := by decide +kernel
theorem d_X5_heightFor_26 : decode cX5_heightFor 26 = .ok (.iconst 3, 1) := by decide +kernel
theorem d_X5_heightFor_27 : decode cX5_heightFor 27 = .ok (.iaload, 1) := by decide +kernel
theorem d_X5_heightFor_28 : decode cX5_heightFor 28 = .ok (.istore_n 3, 1) := by decide +kernel
theorem d_X5_heightFor_29 : decode cX5_heightFor 29 = .ok (.aload_n 0, 1) := by decide +kernel
theorem d_X5_heightFor_30 : decode cX5_heightFor 30 = .ok (.iload_n 1, 1) := by decide +kernel
theorem d_X5_heightFor_31 : decode cX5_heightFor 31 = .ok (.iconst 3, 1) := by decide +kernel
theorem d_X5_heightFor_32 : decode cX5_heightFor 32 = .ok (.invokevirtual 95, 3) := by decide +kernel
theorem d_X5_heightFor_35 : decode cX5_heightFor 35 = .ok (.istore 4, 2) := by decide +kernel
theorem d_X5_heightFor_37 : decode cX5_heightFor 37 = .ok (.iconst 1, 1) := by decide +kernel
theorem d_X5_heightFor_38 : decode cX5_heightFor 38 = .ok (.istore 5, 2) := by decide +kernel
theorem d_X5_heightFor_40 : decode cX5_heightFor 40 = .ok (.aload_n 0, 1) := by decide +kernel
theorem d_X5_heightFor_41 : decode cX5_heightFor 41 = .ok (.getfield 9, 3) := by decide +kernel
theorem d_X5_heightFor_44 : decode cX5_heightFor 44 = .ok (.iconst 3, 1) := by decide +kernel
theorem d_X5_heightFor_45 : decode cX5_heightFor 45 = .ok (.iconst 1, 1) := by decide +kernel
theorem d_X5_heightFor_46 : decode cX5_heightFor 46 = .ok (.iastore, 1) := by decide +kernel
theorem d_X5_heightFor_47 : decode cX5_heightFor 47 = .ok (.iload 5, 2) := by decide +kernel
theorem d_X5_heightFor_49 : decode cX5_heightFor 49 = .ok (.bipush 60, 2) := by decide +kernel
theorem d_X5_heightFor_51 : decode cX5_heightFor 51 = .ok (.if_icmp .gt 32, 3) := by decide +kernel
theorem d_X5_heightFor_54 : decode cX5_heightFor 54 = .ok (.aload_n 0, 1) := by decide +kernel
theorem d_X5_heightFor_55 : decode cX5_heightFor 55 = .ok (.iload_n 1, 1) := by decide +kernel
theorem d_X5_heightFor_56 : decode cX5_heightFor 56 = .ok (.iconst 3, 1) := by decide +kernel
theorem d_X5_heightFor_57 : decode cX5_heightFor 57 = .ok (.invokestatic 85, 3) := by decide +kernel
theorem d_X5_heightFor_60 : decode cX5_heightFor 60 = .ok (.iload_n 2, 1) := by decide +kernel
theorem d_X5_heightFor_61 : decode cX5_heightFor 61 = .ok (.invokevirtual 186, 3) := by decide +kernel
theorem d_X5_heightFor_64 : decode cX5_heightFor 64 = .ok (.iload 4, 2) := by decide +kernel
theorem d_X5_heightFor_66 : decode cX5_heightFor 66 = .ok (.if_icmp .eq 17, 3) := by decide +kernel
theorem d_X5_heightFor_69 : decode cX5_heightFor 69 = .ok (.iinc 5 1, 3) := by decide +kernel
theorem d_X5_heightFor_72 : decode cX5_heightFor 72 = .ok (.aload_n 0, 1) := by decide +kernel
theorem d_X5_heightFor_73 : decode cX5_heightFor 73 = .ok (.getfield 9, 3) := by decide +kernel
theorem d_X5_heightFor_76 : decode cX5_heightFor 76 = .ok (.iconst 3, 1) := by decide +kernel
theorem d_X5_heightFor_77 : decode cX5_heightFor 77 = .ok (.iload 5, 2) := by decide +kernel
theorem d_X5_heightFor_79 : decode cX5_heightFor 79 = .ok (.iastore, 1) := by decide +kernel
theorem d_X5_heightFor_80 : decode cX5_heightFor 80 = .ok (.goto (-33), 3) := by decide +kernel
theorem d_X5_heightFor_83 : decode cX5_heightFor 83 = .ok (.aload_n 0, 1) := by decide +kernel
theorem d_X5_heightFor_84 : decode cX5_heightFor 84 = .ok (.getfield 9, 3) := by decide +kernel
theorem d_X5_heightFor_87 : decode cX5_heightFor 87 = .ok (.iconst 3, 1) := by decide +kernel
theorem d_X5_heightFor_88 : decode cX5_heightFor 88 = .ok (.iload_n 3, 1) := by decide +kernel
theorem d_X5_heightFor_89 : decode cX5_heightFor 89 = .ok (.iastore, 1) := by decide +kernel
theorem d_X5_heightFor_90 : decode cX5_heightFor 90 = .ok (.iload 5, 2) := by decide +kernel
theorem d_X5_heightFor_92 : decode cX5_heightFor 92 = .ok (.bipush 60, 2) := by decide +kernel
theorem d_X5_heightFor_94 : decode cX5_heightFor 94 = .ok (.if_icmp .gt 8, 3) := by decide +kernel
theorem d_X5_heightFor_97 : decode cX5_heightFor 97 = .ok (.iload 5, 2) := by decide +kernel
theorem d_X5_heightFor_99 : decode cX5_heightFor 99 = .ok (.goto 9, 3) := by decide +kernel
theorem d_X5_heightFor_102 : decode cX5_heightFor 102 = .ok (.aload_n 0, 1) := by decide +kernel
theorem d_X5_heightFor_103 : decode cX5_heightFor 103 = .ok (.ldc 65, 2) := by decide +kernel
theorem d_X5_heightFor_105 : decode cX5_heightFor 105 = .ok (.invokevirtual 66, 3) := by decide +kernel
theorem d_X5_heightFor_108 : decode cX5_heightFor 108 = .ok (.ireturn, 1) := by decide +kernel
noncomputable def P_X5_heightFor : Nat → Op := fun pc => nd 51 pc (nd 28 pc (nd 15 pc (nd 5 pc (nd 1 pc (lf 0 pc (oALd 0 1)) (nd 2 pc (lf 1 pc (oILd 1 2)) (lf 2 pc (oCaV 2 5 S_X5_isDisputant 5)))) (nd 9 pc (nd 8 pc (lf 5 pc (oIfEq 15 8)) (lf 8 pc (oILd 2 9))) (nd 12 pc (lf 9 pc (oCaS 1 S_X5_isThought 12)) (lf 12 pc (oIfEq 15 22))))) (nd 22 pc (nd 18 pc (nd 16 pc (lf 15 pc (oALd 0 16)) (lf 16 pc (oCst (-1000001) 18))) (nd 21 pc (lf 18 pc (oCaV 2 5 S_X5_finding 21)) (lf 21 pc (oIRet)))) (nd 26 pc (nd 23 pc (lf 22 pc (oALd 0 23)) (lf 23 pc (oGetR 5 0 26))) (nd 27 pc (lf 26 pc (oCst 3 27)) (lf 27 pc (oIAL 28)))))) (nd 38 pc (nd 31 pc (nd 29 pc (lf 28 pc (oISt 3 29)) (nd 30 pc (lf 29 pc (oALd 0 30)) (lf 30 pc (oILd 1 31)))) (nd 35 pc (nd 32 pc (lf 31 pc (oCst 3 32)) (lf 32 pc (oCaV 3 5 S_X5_disputantIs 35))) (nd 37 pc (lf 35 pc (oISt 4 37)) (lf 37 pc (oCst 1 38))))) (nd 45 pc (nd 41 pc (nd 40 pc (lf 38 pc (oISt 5 40)) (lf 40 pc (oALd 0 41))) (nd 44 pc (lf 41 pc (oGetR 5 0 44)) (lf 44 pc (oCst 3 45)))) (nd 47 pc (nd 46 pc (lf 45 pc (oCst 1 46)) (lf 46 pc (oIAS 47))) (nd 49 pc (lf 47 pc (lockO (oILd 5 49) 0)) (lf 49 pc (oCst 60 51))))))) (nd 80 pc (nd 64 pc (nd 56 pc (nd 54 pc (lf 51 pc (oCpGt 83 54)) (nd 55 pc (lf 54 pc (oALd 0 55)) (lf 55 pc (oILd 1 56)))) (nd 60 pc (nd 57 pc (lf 56 pc (oCst 3 57)) (lf 57 pc (oCaS 2 S_X5_disputantAt 60))) (nd 61 pc (lf 60 pc (oILd 2 61)) (lf 61 pc (oCaV 3 5 S_X5_behind 64))))) (nd 73 pc (nd 69 pc (nd 66 pc (lf 64 pc (oILd 4 66)) (lf 66 pc (oCpEq 83 69))) (nd 72 pc (lf 69 pc (oInc 5 1 72)) (lf 72 pc (oALd 0 73)))) (nd 77 pc (nd 76 pc (lf 73 pc (oGetR 5 0 76)) (lf 76 pc (oCst 3 77))) (nd 79 pc (lf 77 pc (oILd 5 79)) (lf 79 pc (oIAS 80)))))) (nd 92 pc (nd 87 pc (nd 83 pc (lf 80 pc (oGo 47)) (nd 84 pc (lf 83 pc (oALd 0 84)) (lf 84 pc (oGetR 5 0 87)))) (nd 89 pc (nd 88 pc (lf 87 pc (oCst 3 88)) (lf 88 pc (oILd 3 89))) (nd 90 pc (lf 89 pc (oIAS 90)) (lf 90 pc (oILd 5 92))))) (nd 102 pc (nd 97 pc (nd 94 pc (lf 92 pc (oCst 60 94)) (lf 94 pc (oCpGt 102 97))) (nd 99 pc (lf 97 pc (oILd 5 99)) (lf 99 pc (oGo 108)))) (nd 105 pc (nd 103 pc (lf 102 pc (oALd 0 103)) (lf 103 pc (oCst (-1000004) 105))) (nd 108 pc (lf 105 pc (oCaV 2 5 S_X5_finding 108)) (lf 108 pc (oIRet)))))))
theorem ok_X5_heightFor {l : Launch} {G : Gm} : ∀ pc, OkU (TXm l G (rmD 10) 6 cX5_heightFor RX5) (RXm l G (rmD 10) 6 cX5_heightFor RX5 (some .int)) pc (P_X5_heightFor pc) := fun pc => ok_nd (ok_nd (ok_nd (ok_nd (ok_nd (ok_lf (ok_ALdn d_X5_heightFor_0 rfl rfl)) (ok_nd (ok_lf (ok_ILdn d_X5_heightFor_1 rfl rfl)) (ok_lf (ok_CaV su_X5_isDisputant (by decide) rfl d_X5_heightFor_2 q823 q825 z58 q6 q826 ⟨by decide +kernel, by decide +kernel, by decide +kernel⟩ ⟨by decide, by decide⟩ rfl)))) (ok_nd (ok_nd (ok_lf (ok_IfEq d_X5_heightFor_5 (by decide) rfl)) (ok_lf (ok_ILdn d_X5_heightFor_8 rfl rfl))) (ok_nd (ok_lf (ok_CaS su_X5_isThought d_X5_heightFor_9 q970 q971 q6 q972 ⟨by decide +kernel, by decide +kernel, by decide +kernel⟩ ⟨by decide, by decide⟩ rfl)) (ok_lf (ok_IfNe d_X5_heightFor_12 (by decide) rfl))))) (ok_nd (ok_nd (ok_nd (ok_lf (ok_ALdn d_X5_heightFor_15 rfl rfl)) (ok_lf (ok_Ldc d_X5_heightFor_16 q781 rfl))) (ok_nd (ok_lf (ok_CaV su_X5_finding (by decide) rfl d_X5_heightFor_18 q782 q784 z56 q6 q785 ⟨by decide +kernel, by decide +kernel, by decide +kernel⟩ ⟨by decide, by decide⟩ rfl)) (ok_lf (ok_IRet d_X5_heightFor_21)))) (ok_nd (ok_nd (ok_lf (ok_ALdn d_X5_heightFor_22 rfl rfl)) (ok_lf (ok_GetR (by decide) (by decide) rfl d_X5_heightFor_23 q703 rfl))) (ok_nd (ok_lf (ok_ICst d_X5_heightFor_26 (by decide) rfl)) (ok_lf (ok_IAL d_X5_heightFor_27 rfl)))))) (ok_nd (ok_nd (ok_nd (ok_lf (ok_IStn d_X5_heightFor_28 rfl rfl)) (ok_nd (ok_lf (ok_ALdn d_X5_heightFor_29 rfl rfl)) (ok_lf (ok_ILdn d_X5_heightFor_30 rfl rfl)))) (ok_nd (ok_nd (ok_lf (ok_ICst d_X5_heightFor_31 (by decide) rfl)) (ok_lf (ok_CaV su_X5_disputantIs (by decide) rfl d_X5_heightFor_32 q835 q837 z61 q6 q838 ⟨by decide +kernel, by decide +kernel, by decide +kernel⟩ ⟨by decide, by decide⟩ rfl))) (ok_nd (ok_lf (ok_ISt d_X5_heightFor_35 rfl)) (ok_lf (ok_ICst d_X5_heightFor_37 (by decide) rfl))))) (ok_nd (ok_nd (ok_nd (ok_lf (ok_ISt d_X5_heightFor_38 rfl)) (ok_lf (ok_ALdn d_X5_heightFor_40 rfl rfl))) (ok_nd (ok_lf (ok_GetR (by decide) (by decide) rfl d_X5_heightFor_41 q703 rfl)) (ok_lf (ok_ICst d_X5_heightFor_44 (by decide) rfl)))) (ok_nd (ok_nd (ok_lf (ok_ICst d_X5_heightFor_45 (by decide) rfl)) (ok_lf (ok_IAS d_X5_heightFor_46 rfl))) (ok_nd (ok_lf (ok_lk (ok_ILd d_X5_heightFor_47 rfl))) (ok_lf (ok_BCst d_X5_heightFor_49 (by decide) rfl))))))) (ok_nd (ok_nd (ok_nd (ok_nd (ok_lf (ok_CpGt d_X5_heightFor_51 (by decide) rfl)) (ok_nd (ok_lf (ok_ALdn d_X5_heightFor_54 rfl rfl)) (ok_lf (ok_ILdn d_X5_heightFor_55 rfl rfl)))) (ok_nd (ok_nd (ok_lf (ok_ICst d_X5_heightFor_56 (by decide) rfl)) (ok_lf (ok_CaS su_X5_disputantAt d_X5_heightFor_57 q816 q817 q6 q818 ⟨by decide +kernel, by decide +kernel, by decide +kernel⟩ ⟨by decide, by decide⟩ rfl))) (ok_nd (ok_lf (ok_ILdn d_X5_heightFor_60 rfl rfl)) (ok_lf (ok_CaV su_X5_behind (by decide) rfl d_X5_heightFor_61 q973 q975 z81 q6 q976 ⟨by decide +kernel, by decide +kernel, by decide +kernel⟩ ⟨by decide, by decide⟩ rfl))))) (ok_nd (ok_nd (ok_nd (ok_lf (ok_ILd d_X5_heightFor_64 rfl)) (ok_lf (ok_CpEq d_X5_heightFor_66 (by decide) rfl))) (ok_nd (ok_lf (ok_Inc d_X5_heightFor_69 (by decide) rfl)) (ok_lf (ok_ALdn d_X5_heightFor_72 rfl rfl)))) (ok_nd (ok_nd (ok_lf (ok_GetR (by decide) (by decide) rfl d_X5_heightFor_73 q703 rfl)) (ok_lf (ok_ICst d_X5_heightFor_76 (by decide) rfl))) (ok_nd (ok_lf (ok_ILd d_X5_heightFor_77 rfl)) (ok_lf (ok_IAS d_X5_heightFor_79 rfl)))))) (ok_nd (ok_nd (ok_nd (ok_lf (ok_Go d_X5_heightFor_80 (by decide))) (ok_nd (ok_lf (ok_ALdn d_X5_heightFor_83 rfl rfl)) (ok_lf (ok_GetR (by decide) (by decide) rfl d_X5_heightFor_84 q703 rfl)))) (ok_nd (ok_nd (ok_lf (ok_ICst d_X5_heightFor_87 (by decide) rfl)) (ok_lf (ok_ILdn d_X5_heightFor_88 rfl rfl))) (ok_nd (ok_lf (ok_IAS d_X5_heightFor_89 rfl)) (ok_lf (ok_ILd d_X5_heightFor_90 rfl))))) (ok_nd (ok_nd (ok_nd (ok_lf (ok_BCst d_X5_heightFor_92 (by decide) rfl)) (ok_lf (ok_CpGt d_X5_heightFor_94 (by decide) rfl))) (ok_nd (ok_lf (ok_ILd d_X5_heightFor_97 rfl)) (ok_lf (ok_Go d_X5_heightFor_99 (by decide))))) (ok_nd (ok_nd (ok_lf (ok_ALdn d_X5_heightFor_102 rfl rfl)) (ok_lf (ok_Ldc d_X5_heightFor_103 q888 rfl))) (ok_nd (ok_lf (ok_CaV su_X5_finding (by decide) rfl d_X5_heightFor_105 q782 q784 z56 q6 q785 ⟨by decide +kernel, by decide +kernel, by decide +kernel⟩ ⟨by decide, by decide⟩ rfl)) (ok_lf (ok_IRet d_X5_heightFor_108)))))))
noncomputable def S_X5_heightFor : Sem := lockS (inl P_X5_heightFor 30000 6) 0
theorem su_X5_heightFor {l : Launch} {G : Gm} : SemU l G yX5_heightFor (wsOf yX5_heightFor cX5_heightFor 6 (some .int)) 10 S_X5_heightFor := sem_lock (sem_inl 30000 (by decide +kernel) rfl ok_X5_heightFor)
theorem d_X5_bestFor_0 : decode cX5_bestFor 0 = .ok (.aload_n 0, 1) := by decide +kernel
theorem d_X5_bestFor_1 : decode cX5_bestFor 1 = .ok (.getfield 9, 3) := by decide +kernel
theorem d_X5_bestFor_4 : decode cX5_bestFor 4 = .ok (.iload_n 1, 1) := by decide +kernel
theorem d_X5_bestFor_5 : decode cX5_bestFor 5 = .ok (.iaload, 1) := by decide +kernel
theorem d_X5_bestFor_6 : decode cX5_bestFor 6 = .ok (.istore 5, 2) := by decide +kernel
theorem d_X5_bestFor_8 : decode cX5_bestFor 8 = .ok (.iconst 0, 1) := by decide +kernel
theorem d_X5_bestFor_9 : decode cX5_bestFor 9 = .ok (.istore 6, 2) := by decide +kernel
theorem d_X5_bestFor_11 : decode cX5_bestFor 11 = .ok (.iconst (-1), 1) := by decide +kernel
theorem d_X5_bestFor_12 : decode cX5_bestFor 12 = .ok (.istore 7, 2) := by decide +kernel
theorem d_X5_bestFor_14 : decode cX5_bestFor 14 = .ok (.iconst 0, 1) := by decide +kernel
theorem d_X5_bestFor_15 : decode cX5_bestFor 15 = .ok (.istore 8, 2) := by decide +kernel
theorem d_X5_bestFor_17 : decode cX5_bestFor 17 = .ok (.iload 8, 2) := by decide +kernel
theorem d_X5_bestFor_19 : decode cX5_bestFor 19 = .ok (.iload_n 2, 1) := by decide +kernel
theorem d_X5_bestFor_20 : decode cX5_bestFor 20 = .ok (.if_icmp .ge 45, 3) := by decide +kernel
theorem d_X5_bestFor_23 : decode cX5_bestFor 23 = .ok (.aload_n 0, 1) := by decide +kernel
theorem d_X5_bestFor_24 : decode cX5_bestFor 24 = .ok (.getfield 9, 3) := by decide +kernel
theorem d_X5_bestFor_27 : decode cX5_bestFor 27 = .ok (.iload_n 1, 1) := by decide +kernel
theorem d_X5_bestFor_28 : decode cX5_bestFor 28 = .ok (.iload 8, 2) := by decide +kernel
theorem d_X5_bestFor_30 : decode cX5_bestFor 30 = .ok (.iastore, 1) := by decide +kernel
theorem d_X5_bestFor_31 : decode cX5_bestFor 31 = .ok (.aload_n 0, 1) := by decide +kernel
theorem d_X5_bestFor_32 : decode cX5_bestFor 32 = .ok (.iload_n 3, 1) := by decide +kernel
theorem d_X5_bestFor_33 : decode cX5_bestFor 33 = .ok (.iconst 4, 1) := by decide +kernel
theorem d_X5_bestFor_34 : decode cX5_bestFor 34 = .ok (.invokestatic 85, 3) := by decide +kernel
theorem d_X5_bestFor_37 : decode cX5_bestFor 37 = .ok (.iload 4, 2) := by decide +kernel
theorem d_X5_bestFor_39 : decode cX5_bestFor 39 = .ok (.invokevirtual 186, 3) := by decide +kernel
theorem d_X5_bestFor_42 : decode cX5_bestFor 42 = .ok (.istore 9, 2) := by decide +kernel
theorem d_X5_bestFor_44 : decode cX5_bestFor 44 = .ok (.iload 9, 2) := by decide +kernel
theorem d_X5_bestFor_46 : decode cX5_bestFor 46 = .ok (.iload 7, 2) := by decide +kernel
theorem d_X5_bestFor_48 : decode cX5_bestFor 48 = .ok (.if_icmp .le 11, 3) := by decide +kernel
theorem d_X5_bestFor_51 : decode cX5_bestFor 51 = .ok (.iload 8, 2) := by decide +kernel
theorem d_X5_bestFor_53 : decode cX5_bestFor 53 = .ok (.istore 6, 2) := by decide +kernel
theorem d_X5_bestFor_55 : decode cX5_bestFor 55 = .ok (.iload 9, 2) := by decide +kernel
theorem d_X5_bestFor_57 : decode cX5_bestFor 57 = .ok (.istore 7, 2) := by decide +kernel
theorem d_X5_bestFor_59 : decode cX5_bestFor 59 = .ok (.iinc 8 1, 3) := by decide +kernel
theorem d_X5_bestFor_62 : decode cX5_bestFor 62 = .ok (.goto (-45), 3) := by decide +kernel
theorem d_X5_bestFor_65 : decode cX5_bestFor 65 = .ok (.aload_n 0, 1) := by decide +kernel
theorem d_X5_bestFor_66 : decode cX5_bestFor 66 = .ok (.getfield 9, 3) := by decide +kernel
theorem d_X5_bestFor_69 : decode cX5_bestFor 69 = .ok (.iload_n 1, 1) := by decide +kernel
theorem d_X5_bestFor_70 : decode cX5_bestFor 70 = .ok (.iload 5, 2) := by decide +kernel
theorem d_X5_bestFor_72 : decode cX5_bestFor 72 = .ok (.iastore, 1) := by decide +kernel
theorem d_X5_bestFor_73 : decode cX5_bestFor 73 = .ok (.iload 6, 2) := by decide +kernel
theorem d_X5_bestFor_75 : decode cX5_bestFor 75 = .ok (.ireturn, 1) := by decide +kernel
noncomputable def P_X5_bestFor : Nat → Op := fun pc => nd 33 pc (nd 15 pc (nd 8 pc (nd 4 pc (nd 1 pc (lf 0 pc (oALd 0 1)) (lf 1 pc (oGetR 5 0 4))) (nd 5 pc (lf 4 pc (oILd 1 5)) (nd 6 pc (lf 5 pc (oIAL 6)) (lf 6 pc (oISt 5 8))))) (nd 11 pc (nd 9 pc (lf 8 pc (oCst 0 9)) (lf 9 pc (oISt 6 11))) (nd 12 pc (lf 11 pc (oCst (-1) 12)) (nd 14 pc (lf 12 pc (oISt 7 14)) (lf 14 pc (oCst 0 15)))))) (nd 24 pc (nd 19 pc (nd 17 pc (lf 15 pc (oISt 8 17)) (lf 17 pc (lockO (oILd 8 19) 0))) (nd 20 pc (lf 19 pc (oILd 2 20)) (nd 23 pc (lf 20 pc (oCpLt 23 65)) (lf 23 pc (oALd 0 24))))) (nd 30 pc (nd 27 pc (lf 24 pc (oGetR 5 0 27)) (nd 28 pc (lf 27 pc (oILd 1 28)) (lf 28 pc (oILd 8 30)))) (nd 31 pc (lf 30 pc (oIAS 31)) (nd 32 pc (lf 31 pc (oALd 0 32)) (lf 32 pc (oILd 3 33))))))) (nd 55 pc (nd 44 pc (nd 37 pc (nd 34 pc (lf 33 pc (oCst 4 34)) (lf 34 pc (oCaS 2 S_X5_disputantAt 37))) (nd 39 pc (lf 37 pc (oILd 4 39)) (nd 42 pc (lf 39 pc (oCaV 3 5 S_X5_behind 42)) (lf 42 pc (oISt 9 44))))) (nd 48 pc (nd 46 pc (lf 44 pc (oILd 9 46)) (lf 46 pc (oILd 7 48))) (nd 51 pc (lf 48 pc (oCpGt 51 59)) (nd 53 pc (lf 51 pc (oILd 8 53)) (lf 53 pc (oISt 6 55)))))) (nd 66 pc (nd 59 pc (nd 57 pc (lf 55 pc (oILd 9 57)) (lf 57 pc (oISt 7 59))) (nd 62 pc (lf 59 pc (oInc 8 1 62)) (nd 65 pc (lf 62 pc (oGo 17)) (lf 65 pc (oALd 0 66))))) (nd 72 pc (nd 69 pc (lf 66 pc (oGetR 5 0 69)) (nd 70 pc (lf 69 pc (oILd 1 70)) (lf 70 pc (oILd 5 72)))) (nd 73 pc (lf 72 pc (oIAS 73)) (nd 75 pc (lf 73 pc (oILd 6 75)) (lf 75 pc (oIRet)))))))
theorem ok_X5_bestFor {l : Launch} {G : Gm} : ∀ pc, OkU (TXm l G (rmD 10) 10 cX5_bestFor RX5) (RXm l G (rmD 10) 10 cX5_bestFor RX5 (some .int)) pc (P_X5_bestFor pc) := fun pc => ok_nd (ok_nd (ok_nd (ok_nd (ok_nd (ok_lf (ok_ALdn d_X5_bestFor_0 rfl rfl)) (ok_lf (ok_GetR (by decide) (by decide) rfl d_X5_bestFor_1 q703 rfl))) (ok_nd (ok_lf (ok_ILdn d_X5_bestFor_4 rfl rfl)) (ok_nd (ok_lf (ok_IAL d_X5_bestFor_5 rfl)) (ok_lf (ok_ISt d_X5_bestFor_6 rfl))))) (ok_nd (ok_nd (ok_lf (ok_ICst d_X5_bestFor_8 (by decide) rfl)) (ok_lf (ok_ISt d_X5_bestFor_9 rfl))) (ok_nd (ok_lf (ok_ICst d_X5_bestFor_11 (by decide) rfl)) (ok_nd (ok_lf (ok_ISt d_X5_bestFor_12 rfl)) (ok_lf (ok_ICst d_X5_bestFor_14 (by decide) rfl)))))) (ok_nd (ok_nd (ok_nd (ok_lf (ok_ISt d_X5_bestFor_15 rfl)) (ok_lf (ok_lk (ok_ILd d_X5_bestFor_17 rfl)))) (ok_nd (ok_lf (ok_ILdn d_X5_bestFor_19 rfl rfl)) (ok_nd (ok_lf (ok_CpGe d_X5_bestFor_20 (by decide) rfl)) (ok_lf (ok_ALdn d_X5_bestFor_23 rfl rfl))))) (ok_nd (ok_nd (ok_lf (ok_GetR (by decide) (by decide) rfl d_X5_bestFor_24 q703 rfl)) (ok_nd (ok_lf (ok_ILdn d_X5_bestFor_27 rfl rfl)) (ok_lf (ok_ILd d_X5_bestFor_28 rfl)))) (ok_nd (ok_lf (ok_IAS d_X5_bestFor_30 rfl)) (ok_nd (ok_lf (ok_ALdn d_X5_bestFor_31 rfl rfl)) (ok_lf (ok_ILdn d_X5_bestFor_32 rfl rfl))))))) (ok_nd (ok_nd (ok_nd (ok_nd (ok_lf (ok_ICst d_X5_bestFor_33 (by decide) rfl)) (ok_lf (ok_CaS su_X5_disputantAt d_X5_bestFor_34 q816 q817 q6 q818 ⟨by decide +kernel, by decide +kernel, by decide +kernel⟩ ⟨by decide, by decide⟩ rfl))) (ok_nd (ok_lf (ok_ILd d_X5_bestFor_37 rfl)) (ok_nd (ok_lf (ok_CaV su_X5_behind (by decide) rfl d_X5_bestFor_39 q973 q975 z81 q6 q976 ⟨by decide +kernel, by decide +kernel, by decide +kernel⟩ ⟨by decide, by decide⟩ rfl)) (ok_lf (ok_ISt d_X5_bestFor_42 rfl))))) (ok_nd (ok_nd (ok_lf (ok_ILd d_X5_bestFor_44 rfl)) (ok_lf (ok_ILd d_X5_bestFor_46 rfl))) (ok_nd (ok_lf (ok_CpLe d_X5_bestFor_48 (by decide) rfl)) (ok_nd (ok_lf (ok_ILd d_X5_bestFor_51 rfl)) (ok_lf (ok_ISt d_X5_bestFor_53 rfl)))))) (ok_nd (ok_nd (ok_nd (ok_lf (ok_ILd d_X5_bestFor_55 rfl)) (ok_lf (ok_ISt d_X5_bestFor_57 rfl))) (ok_nd (ok_lf (ok_Inc d_X5_bestFor_59 (by decide) rfl)) (ok_nd (ok_lf (ok_Go d_X5_bestFor_62 (by decide))) (ok_lf (ok_ALdn d_X5_bestFor_65 rfl rfl))))) (ok_nd (ok_nd (ok_lf (ok_GetR (by decide) (by decide) rfl d_X5_bestFor_66 q703 rfl)) (ok_nd (ok_lf (ok_ILdn d_X5_bestFor_69 rfl rfl)) (ok_lf (ok_ILd d_X5_bestFor_70 rfl)))) (ok_nd (ok_lf (ok_IAS d_X5_bestFor_72 rfl)) (ok_nd (ok_lf (ok_ILd d_X5_bestFor_73 rfl)) (ok_lf (ok_IRet d_X5_bestFor_75)))))))
noncomputable def S_X5_bestFor : Sem := lockS (inl P_X5_bestFor 30000 10) 0
theorem su_X5_bestFor {l : Launch} {G : Gm} : SemU l G yX5_bestFor (wsOf yX5_bestFor cX5_bestFor 10 (some .int)) 10 S_X5_bestFor := sem_lock (sem_inl 30000 (by decide +kernel) rfl ok_X5_bestFor)
theorem d_X5_spreadFor_0 : decode cX5_spreadFor 0 = .ok (.aload_n 0, 1) := by decide +kernel
theorem d_X5_spreadFor_1 : decode cX5_spreadFor 1 = .ok (.iload_n 1, 1) := by decide +kernel
theorem d_X5_spreadFor_2 : decode cX5_spreadFor 2 = .ok (.invokevirtual 121, 3) := by decide +kernel
theorem d_X5_spreadFor_5 : decode cX5_spreadFor 5 = .ok (.ifCond .eq 22, 3) := by decide +kernel
theorem d_X5_spreadFor_8 : decode cX5_spreadFor 8 = .ok (.iload_n 2, 1) := by decide +kernel
theorem d_X5_spreadFor_9 : decode cX5_spreadFor 9 = .ok (.invokestatic 183, 3) := by decide +kernel
theorem d_X5_spreadFor_12 : decode cX5_spreadFor 12 = .ok (.ifCond .eq 15, 3) := by decide +kernel
theorem d_X5_spreadFor_15 : decode cX5_spreadFor 15 = .ok (.aload_n 0, 1) := by decide +kernel
theorem d_X5_spreadFor_16 : decode cX5_spreadFor 16 = .ok (.iconst 4, 1) := by decide +kernel
theorem d_X5_spreadFor_17 : decode cX5_spreadFor 17 = .ok (.bipush 10, 2) := by decide +kernel
theorem d_X5_spreadFor_19 : decode cX5_spreadFor 19 = .ok (.iload_n 1, 1) := by decide +kernel
theorem d_X5_spreadFor_20 : decode cX5_spreadFor 20 = .ok (.iload_n 2, 1) := by decide +kernel
theorem d_X5_spreadFor_21 : decode cX5_spreadFor 21 = .ok (.invokevirtual 189, 3) := by decide +kernel
theorem d_X5_spreadFor_24 : decode cX5_spreadFor 24 = .ok (.goto 9, 3) := by decide +kernel
theorem d_X5_spreadFor_27 : decode cX5_spreadFor 27 = .ok (.aload_n 0, 1) := by decide +kernel
theorem d_X5_spreadFor_28 : decode cX5_spreadFor 28 = .ok (.ldc 60, 2) := by decide +kernel
theorem d_X5_spreadFor_30 : decode cX5_spreadFor 30 = .ok (.invokevirtual 66, 3) := by decide +kernel
theorem d_X5_spreadFor_33 : decode cX5_spreadFor 33 = .ok (.ireturn, 1) := by decide +kernel
noncomputable def P_X5_spreadFor : Nat → Op := fun pc => nd 17 pc (nd 8 pc (nd 2 pc (nd 1 pc (lf 0 pc (oALd 0 1)) (lf 1 pc (oILd 1 2))) (nd 5 pc (lf 2 pc (oCaV 2 5 S_X5_isDisputant 5)) (lf 5 pc (oIfEq 27 8)))) (nd 12 pc (nd 9 pc (lf 8 pc (oILd 2 9)) (lf 9 pc (oCaS 1 S_X5_isThought 12))) (nd 15 pc (lf 12 pc (oIfEq 27 15)) (nd 16 pc (lf 15 pc (oALd 0 16)) (lf 16 pc (oCst 4 17)))))) (nd 24 pc (nd 20 pc (nd 19 pc (lf 17 pc (oCst 10 19)) (lf 19 pc (oILd 1 20))) (nd 21 pc (lf 20 pc (oILd 2 21)) (lf 21 pc (oCaV 5 5 S_X5_bestFor 24)))) (nd 28 pc (nd 27 pc (lf 24 pc (oGo 33)) (lf 27 pc (oALd 0 28))) (nd 30 pc (lf 28 pc (oCst (-1000001) 30)) (nd 33 pc (lf 30 pc (oCaV 2 5 S_X5_finding 33)) (lf 33 pc (oIRet))))))
theorem ok_X5_spreadFor {l : Launch} {G : Gm} : ∀ pc, OkU (TXm l G (rmD 11) 3 cX5_spreadFor RX5) (RXm l G (rmD 11) 3 cX5_spreadFor RX5 (some .int)) pc (P_X5_spreadFor pc) := fun pc => ok_nd (ok_nd (ok_nd (ok_nd (ok_lf (ok_ALdn d_X5_spreadFor_0 rfl rfl)) (ok_lf (ok_ILdn d_X5_spreadFor_1 rfl rfl))) (ok_nd (ok_lf (ok_CaV su_X5_isDisputant (by decide) rfl d_X5_spreadFor_2 q823 q825 z58 q6 q826 ⟨by decide +kernel, by decide +kernel, by decide +kernel⟩ ⟨by decide, by decide⟩ rfl)) (ok_lf (ok_IfEq d_X5_spreadFor_5 (by decide) rfl)))) (ok_nd (ok_nd (ok_lf (ok_ILdn d_X5_spreadFor_8 rfl rfl)) (ok_lf (ok_CaS su_X5_isThought d_X5_spreadFor_9 q970 q971 q6 q972 ⟨by decide +kernel, by decide +kernel, by decide +kernel⟩ ⟨by decide, by decide⟩ rfl))) (ok_nd (ok_lf (ok_IfEq d_X5_spreadFor_12 (by decide) rfl)) (ok_nd (ok_lf (ok_ALdn d_X5_spreadFor_15 rfl rfl)) (ok_lf (ok_ICst d_X5_spreadFor_16 (by decide) rfl)))))) (ok_nd (ok_nd (ok_nd (ok_lf (ok_BCst d_X5_spreadFor_17 (by decide) rfl)) (ok_lf (ok_ILdn d_X5_spreadFor_19 rfl rfl))) (ok_nd (ok_lf (ok_ILdn d_X5_spreadFor_20 rfl rfl)) (ok_lf (ok_CaV su_X5_bestFor (by decide) rfl d_X5_spreadFor_21 q981 q983 z82 q6 q984 ⟨by decide +kernel, by decide +kernel, by decide +kernel⟩ ⟨by decide, by decide⟩ rfl)))) (ok_nd (ok_nd (ok_lf (ok_Go d_X5_spreadFor_24 (by decide))) (ok_lf (ok_ALdn d_X5_spreadFor_27 rfl rfl))) (ok_nd (ok_lf (ok_Ldc d_X5_spreadFor_28 q781 rfl)) (ok_nd (ok_lf (ok_CaV su_X5_finding (by decide) rfl d_X5_spreadFor_30 q782 q784 z56 q6 q785 ⟨by decide +kernel, by decide +kernel, by decide +kernel⟩ ⟨by decide, by decide⟩ rfl)) (ok_lf (ok_IRet d_X5_spreadFor_33))))))
noncomputable def S_X5_spreadFor : Sem := lockS (inl P_X5_spreadFor 20 3) 0
theorem su_X5_spreadFor {l : Launch} {G : Gm} : SemU l G yX5_spreadFor (wsOf yX5_spreadFor cX5_spreadFor 3 (some .int)) 11 S_X5_spreadFor := sem_lock (sem_inl 20 (by decide +kernel) rfl ok_X5_spreadFor)
theorem d_X5_kindFor_0 : decode cX5_kindFor 0 = .ok (.aload_n 0, 1) := by decide +kernel
theorem d_X5_kindFor_1 : decode cX5_kindFor 1 = .ok (.iload_n 1, 1) := by decide +kernel
theorem d_X5_kindFor_2 : decode cX5_kindFor 2 = .ok (.invokevirtual 121, 3) := by decide +kernel
theorem d_X5_kindFor_5 : decode cX5_kindFor 5 = .ok (.ifCond .eq 26, 3) := by decide +kernel
theorem d_X5_kindFor_8 : decode cX5_kindFor 8 = .ok (.iload_n 2, 1) := by decide +kernel
theorem d_X5_kindFor_9 : decode cX5_kindFor 9 = .ok (.invokestatic 183, 3) := by decide +kernel
theorem d_X5_kindFor_12 : decode cX5_kindFor 12 = .ok (.ifCond .eq 19, 3) := by decide +kernel
theorem d_X5_kindFor_15 : decode cX5_kindFor 15 = .ok (.aload_n 0, 1) := by decide +kernel
theorem d_X5_kindFor_16 : decode cX5_kindFor 16 = .ok (.iload_n 1, 1) := by decide +kernel
theorem d_X5_kindFor_17 : decode cX5_kindFor 17 = .ok (.iconst 0, 1) := by decide +kernel
theorem d_X5_kindFor_18 : decode cX5_kindFor 18 = .ok (.invokestatic 85, 3) := by decide +kernel
theorem d_X5_kindFor_21 : decode cX5_kindFor 21 = .ok (.bipush 7, 2) := by decide +kernel
theorem d_X5_kindFor_23 : decode cX5_kindFor 23 = .ok (.iload_n 1, 1) := by decide +kernel
theorem d_X5_kindFor_24 : decode cX5_kindFor 24 = .ok (.iload_n 2, 1) := by decide +kernel
theorem d_X5_kindFor_25 : decode cX5_kindFor 25 = .ok (.invokevirtual 189, 3) := by decide +kernel
theorem d_X5_kindFor_28 : decode cX5_kindFor 28 = .ok (.goto 9, 3) := by decide +kernel
theorem d_X5_kindFor_31 : decode cX5_kindFor 31 = .ok (.aload_n 0, 1) := by decide +kernel
theorem d_X5_kindFor_32 : decode cX5_kindFor 32 = .ok (.ldc 60, 2) := by decide +kernel
theorem d_X5_kindFor_34 : decode cX5_kindFor 34 = .ok (.invokevirtual 66, 3) := by decide +kernel
theorem d_X5_kindFor_37 : decode cX5_kindFor 37 = .ok (.ireturn, 1) := by decide +kernel
noncomputable def P_X5_kindFor : Nat → Op := fun pc => nd 18 pc (nd 9 pc (nd 2 pc (nd 1 pc (lf 0 pc (oALd 0 1)) (lf 1 pc (oILd 1 2))) (nd 5 pc (lf 2 pc (oCaV 2 5 S_X5_isDisputant 5)) (nd 8 pc (lf 5 pc (oIfEq 31 8)) (lf 8 pc (oILd 2 9))))) (nd 15 pc (nd 12 pc (lf 9 pc (oCaS 1 S_X5_isThought 12)) (lf 12 pc (oIfEq 31 15))) (nd 16 pc (lf 15 pc (oALd 0 16)) (nd 17 pc (lf 16 pc (oILd 1 17)) (lf 17 pc (oCst 0 18)))))) (nd 28 pc (nd 23 pc (nd 21 pc (lf 18 pc (oCaS 2 S_X5_disputantAt 21)) (lf 21 pc (oCst 7 23))) (nd 24 pc (lf 23 pc (oILd 1 24)) (nd 25 pc (lf 24 pc (oILd 2 25)) (lf 25 pc (oCaV 5 5 S_X5_bestFor 28))))) (nd 32 pc (nd 31 pc (lf 28 pc (oGo 37)) (lf 31 pc (oALd 0 32))) (nd 34 pc (lf 32 pc (oCst (-1000001) 34)) (nd 37 pc (lf 34 pc (oCaV 2 5 S_X5_finding 37)) (lf 37 pc (oIRet))))))
theorem ok_X5_kindFor {l : Launch} {G : Gm} : ∀ pc, OkU (TXm l G (rmD 11) 3 cX5_kindFor RX5) (RXm l G (rmD 11) 3 cX5_kindFor RX5 (some .int)) pc (P_X5_kindFor pc) := fun pc => ok_nd (ok_nd (ok_nd (ok_nd (ok_lf (ok_ALdn d_X5_kindFor_0 rfl rfl)) (ok_lf (ok_ILdn d_X5_kindFor_1 rfl rfl))) (ok_nd (ok_lf (ok_CaV su_X5_isDisputant (by decide) rfl d_X5_kindFor_2 q823 q825 z58 q6 q826 ⟨by decide +kernel, by decide +kernel, by decide +kernel⟩ ⟨by decide, by decide⟩ rfl)) (ok_nd (ok_lf (ok_IfEq d_X5_kindFor_5 (by decide) rfl)) (ok_lf (ok_ILdn d_X5_kindFor_8 rfl rfl))))) (ok_nd (ok_nd (ok_lf (ok_CaS su_X5_isThought d_X5_kindFor_9 q970 q971 q6 q972 ⟨by decide +kernel, by decide +kernel, by decide +kernel⟩ ⟨by decide, by decide⟩ rfl)) (ok_lf (ok_IfEq d_X5_kindFor_12 (by decide) rfl))) (ok_nd (ok_lf (ok_ALdn d_X5_kindFor_15 rfl rfl)) (ok_nd (ok_lf (ok_ILdn d_X5_kindFor_16 rfl rfl)) (ok_lf (ok_ICst d_X5_kindFor_17 (by decide) rfl)))))) (ok_nd (ok_nd (ok_nd (ok_lf (ok_CaS su_X5_disputantAt d_X5_kindFor_18 q816 q817 q6 q818 ⟨by decide +kernel, by decide +kernel, by decide +kernel⟩ ⟨by decide, by decide⟩ rfl)) (ok_lf (ok_BCst d_X5_kindFor_21 (by decide) rfl))) (ok_nd (ok_lf (ok_ILdn d_X5_kindFor_23 rfl rfl)) (ok_nd (ok_lf (ok_ILdn d_X5_kindFor_24 rfl rfl)) (ok_lf (ok_CaV su_X5_bestFor (by decide) rfl d_X5_kindFor_25 q981 q983 z82 q6 q984 ⟨by decide +kernel, by decide +kernel, by decide +kernel⟩ ⟨by decide, by decide⟩ rfl))))) (ok_nd (ok_nd (ok_lf (ok_Go d_X5_kindFor_28 (by decide))) (ok_lf (ok_ALdn d_X5_kindFor_31 rfl rfl))) (ok_nd (ok_lf (ok_Ldc d_X5_kindFor_32 q781 rfl)) (ok_nd (ok_lf (ok_CaV su_X5_finding (by decide) rfl d_X5_kindFor_34 q782 q784 z56 q6 q785 ⟨by decide +kernel, by decide +kernel, by decide +kernel⟩ ⟨by decide, by decide⟩ rfl)) (ok_lf (ok_IRet d_X5_kindFor_37))))))
noncomputable def S_X5_kindFor : Sem := lockS (inl P_X5_kindFor 22 3) 0
theorem su_X5_kindFor {l : Launch} {G : Gm} : SemU l G yX5_kindFor (wsOf yX5_kindFor cX5_kindFor 3 (some .int)) 11 S_X5_kindFor := sem_lock (sem_inl 22 (by decide +kernel) rfl ok_X5_kindFor)
theorem d_X5_causeFor_0 : decode cX5_causeFor 0 = .ok (.aload_n 0, 1) := by decide +kernel
theorem d_X5_causeFor_1 : decode cX5_causeFor 1 = .ok (.iload_n 1, 1) := by decide +kernel
theorem d_X5_causeFor_2 : decode cX5_causeFor 2 = .ok (.invokevirtual 121, 3) := by decide +kernel
theorem d_X5_causeFor_5 : decode cX5_causeFor 5 = .ok (.ifCond .eq 24, 3) := by decide +kernel
theorem d_X5_causeFor_8 : decode cX5_causeFor 8 = .ok (.iload_n 2, 1) := by decide +kernel
theorem d_X5_causeFor_9 : decode cX5_causeFor 9 = .ok (.iconst 0, 1) := by decide +kernel
theorem d_X5_causeFor_10 : decode cX5_causeFor 10 = .ok (.sipush 9999, 3) := by decide +kernel
theorem d_X5_causeFor_13 : decode cX5_causeFor 13 = .ok (.invokestatic 70, 3) := by decide +kernel
theorem d_X5_causeFor_16 : decode cX5_causeFor 16 = .ok (.ifCond .eq 13, 3) := by decide +kernel
theorem d_X5_causeFor_19 : decode cX5_causeFor 19 = .ok (.iload_n 3, 1) := by decide +kernel
theorem d_X5_causeFor_20 : decode cX5_causeFor 20 = .ok (.iconst 0, 1) := by decide +kernel
theorem d_X5_causeFor_21 : decode cX5_causeFor 21 = .ok (.bipush 40, 2) := by decide +kernel
theorem d_X5_causeFor_23 : decode cX5_causeFor 23 = .ok (.invokestatic 70, 3) := by decide +kernel
theorem d_X5_causeFor_26 : decode cX5_causeFor 26 = .ok (.ifCond .ne 10, 3) := by decide +kernel
theorem d_X5_causeFor_29 : decode cX5_causeFor 29 = .ok (.aload_n 0, 1) := by decide +kernel
theorem d_X5_causeFor_30 : decode cX5_causeFor 30 = .ok (.ldc 60, 2) := by decide +kernel
theorem d_X5_causeFor_32 : decode cX5_causeFor 32 = .ok (.invokevirtual 66, 3) := by decide +kernel
theorem d_X5_causeFor_35 : decode cX5_causeFor 35 = .ok (.ireturn, 1) := by decide +kernel
theorem d_X5_causeFor_36 : decode cX5_causeFor 36 = .ok (.iload_n 1, 1) := by decide +kernel
theorem d_X5_causeFor_37 : decode cX5_causeFor 37 = .ok (.iconst 1, 1) := by decide +kernel
theorem d_X5_causeFor_38 : decode cX5_causeFor 38 = .ok (.invokestatic 85, 3) := by decide +kernel
theorem d_X5_causeFor_41 : decode cX5_causeFor 41 = .ok (.istore 4, 2) := by decide +kernel
theorem d_X5_causeFor_43 : decode cX5_causeFor 43 = .ok (.aload_n 0, 1) := by decide +kernel
theorem d_X5_causeFor_44 : decode cX5_causeFor 44 = .ok (.getfield 9, 3) := by decide +kernel
theorem d_X5_causeFor_47 : decode cX5_causeFor 47 = .ok (.iload 4, 2) := by decide +kernel
theorem d_X5_causeFor_49 : decode cX5_causeFor 49 = .ok (.iaload, 1) := by decide +kernel
theorem d_X5_causeFor_50 : decode cX5_causeFor 50 = .ok (.istore 5, 2) := by decide +kernel
theorem d_X5_causeFor_52 : decode cX5_causeFor 52 = .ok (.iconst 0, 1) := by decide +kernel
theorem d_X5_causeFor_53 : decode cX5_causeFor 53 = .ok (.istore 6, 2) := by decide +kernel
theorem d_X5_causeFor_55 : decode cX5_causeFor 55 = .ok (.aload_n 0, 1) := by decide +kernel
theorem d_X5_causeFor_56 : decode cX5_causeFor 56 = .ok (.getfield 9, 3) := by decide +kernel
theorem d_X5_causeFor_59 : decode cX5_causeFor 59 = .ok (.iload 4, 2) := by decide +kernel
theorem d_X5_causeFor_61 : decode cX5_causeFor 61 = .ok (.iconst 0, 1) := by decide +kernel
theorem d_X5_causeFor_62 : decode cX5_causeFor 62 = .ok (.iastore, 1) := by decide +kernel
theorem d_X5_causeFor_63 : decode cX5_causeFor 63 = .ok (.iload 6, 2) := by decide +kernel
theorem d_X5_causeFor_65 : decode cX5_causeFor 65 = .ok (.bipush 99, 2) := by decide +kernel
theorem d_X5_causeFor_67 : decode cX5_causeFor 67 = .ok (.if_icmp .gt 32, 3) := by decide +kernel
theorem d_X5_causeFor_70 : decode cX5_causeFor 70 = .ok (.aload_n 0, 1) := by decide +kernel
theorem d_X5_causeFor_71 : decode cX5_causeFor 71 = .ok (.iload_n 1, 1) := by decide +kernel
theorem d_X5_causeFor_72 : decode cX5_causeFor 72 = .ok (.iconst 4, 1) := by decide +kernel
theorem d_X5_causeFor_73 : decode cX5_causeFor 73 = .ok (.invokestatic 85, 3) := by decide +kernel
theorem d_X5_causeFor_76 : decode cX5_causeFor 76 = .ok (.iload_n 3, 1) := by decide +kernel
theorem d_X5_causeFor_77 : decode cX5_causeFor 77 = .ok (.invokevirtual 186, 3) := by decide +kernel
theorem d_X5_causeFor_80 : decode cX5_causeFor 80 = .ok (.iload_n 2, 1) := by decide +kernel
theorem d_X5_causeFor_81 : decode cX5_causeFor 81 = .ok (.if_icmp .ge 18, 3) := by decide +kernel
theorem d_X5_causeFor_84 : decode cX5_causeFor 84 = .ok (.iinc 6 1, 3) := by decide +kernel
theorem d_X5_causeFor_87 : decode cX5_causeFor 87 = .ok (.aload_n 0, 1) := by decide +kernel
theorem d_X5_causeFor_88 : decode cX5_causeFor 88 = .ok (.getfield 9, 3) := by decide +kernel
theorem d_X5_causeFor_91 : decode cX5_causeFor 91 = .ok (.iload 4, 2) := by decide +kernel
theorem d_X5_causeFor_93 : decode cX5_causeFor 93 = .ok (.iload 6, 2) := by decide +kernel
theorem d_X5_causeFor_95 : decode cX5_causeFor 95 = .ok (.iastore, 1) := by decide +kernel
theorem d_X5_causeFor_96 : decode cX5_causeFor 96 = .ok (.goto (-33), 3) := by decide +kernel
theorem d_X5_causeFor_99 : decode cX5_causeFor 99 = .ok (.aload_n 0, 1) := by decide +kernel
theorem d_X5_causeFor_100 : decode cX5_causeFor 100 = .ok (.getfield 9, 3) := by decide +kernel
theorem d_X5_causeFor_103 : decode cX5_causeFor 103 = .ok (.iload 4, 2) := by decide +kernel
theorem d_X5_causeFor_105 : decode cX5_causeFor 105 = .ok (.iload 5, 2) := by decide +kernel
theorem d_X5_causeFor_107 : decode cX5_causeFor 107 = .ok (.iastore, 1) := by decide +kernel
theorem d_X5_causeFor_108 : decode cX5_causeFor 108 = .ok (.iload 6, 2) := by decide +kernel
theorem d_X5_causeFor_110 : decode cX5_causeFor 110 = .ok (.bipush 99, 2) := by decide +kernel
theorem d_X5_causeFor_112 : decode cX5_causeFor 112 = .ok (.if_icmp .gt 8, 3) := by decide +kernel
theorem d_X5_causeFor_115 : decode cX5_causeFor 115 = .ok (.iload 6, 2) := by decide +kernel
theorem d_X5_causeFor_117 : decode cX5_causeFor 117 = .ok (.goto 9, 3) := by decide +kernel
theorem d_X5_causeFor_120 : decode cX5_causeFor 120 = .ok (.aload_n 0, 1) := by decide +kernel
theorem d_X5_causeFor_121 : decode cX5_causeFor 121 = .ok (.ldc 65, 2) := by decide +kernel
theorem d_X5_causeFor_123 : decode cX5_causeFor 123 = .ok (.invokevirtual 66, 3) := by decide +kernel
theorem d_X5_causeFor_126 : decode cX5_causeFor 126 = .ok (.ireturn, 1) := by decide +kernel
noncomputable def P_X5_causeFor : Nat → Op := fun pc => nd 62 pc (nd 32 pc (nd 16 pc (nd 8 pc (nd 2 pc (nd 1 pc (lf 0 pc (oALd 0 1)) (lf 1 pc (oILd 1 2))) (nd 5 pc (lf 2 pc (oCaV 2 5 S_X5_isDisputant 5)) (lf 5 pc (oIfEq 29 8)))) (nd 10 pc (nd 9 pc (lf 8 pc (oILd 2 9)) (lf 9 pc (oCst 0 10))) (nd 13 pc (lf 10 pc (oCst 9999 13)) (lf 13 pc (oCaS 3 S_X5_within 16))))) (nd 23 pc (nd 20 pc (nd 19 pc (lf 16 pc (oIfEq 29 19)) (lf 19 pc (oILd 3 20))) (nd 21 pc (lf 20 pc (oCst 0 21)) (lf 21 pc (oCst 40 23)))) (nd 29 pc (nd 26 pc (lf 23 pc (oCaS 3 S_X5_within 26)) (lf 26 pc (oIfEq 29 36))) (nd 30 pc (lf 29 pc (oALd 0 30)) (lf 30 pc (oCst (-1000001) 32)))))) (nd 47 pc (nd 38 pc (nd 36 pc (nd 35 pc (lf 32 pc (oCaV 2 5 S_X5_finding 35)) (lf 35 pc (oIRet))) (nd 37 pc (lf 36 pc (oILd 1 37)) (lf 37 pc (oCst 1 38)))) (nd 43 pc (nd 41 pc (lf 38 pc (oCaS 2 S_X5_disputantAt 41)) (lf 41 pc (oISt 4 43))) (nd 44 pc (lf 43 pc (oALd 0 44)) (lf 44 pc (oGetR 5 0 47))))) (nd 53 pc (nd 50 pc (nd 49 pc (lf 47 pc (oILd 4 49)) (lf 49 pc (oIAL 50))) (nd 52 pc (lf 50 pc (oISt 5 52)) (lf 52 pc (oCst 0 53)))) (nd 56 pc (nd 55 pc (lf 53 pc (oISt 6 55)) (lf 55 pc (oALd 0 56))) (nd 59 pc (lf 56 pc (oGetR 5 0 59)) (nd 61 pc (lf 59 pc (oILd 4 61)) (lf 61 pc (oCst 0 62)))))))) (nd 93 pc (nd 76 pc (nd 70 pc (nd 65 pc (nd 63 pc (lf 62 pc (oIAS 63)) (lf 63 pc (lockO (oILd 6 65) 0))) (nd 67 pc (lf 65 pc (oCst 99 67)) (lf 67 pc (oCpGt 99 70)))) (nd 72 pc (nd 71 pc (lf 70 pc (oALd 0 71)) (lf 71 pc (oILd 1 72))) (nd 73 pc (lf 72 pc (oCst 4 73)) (lf 73 pc (oCaS 2 S_X5_disputantAt 76))))) (nd 84 pc (nd 80 pc (nd 77 pc (lf 76 pc (oILd 3 77)) (lf 77 pc (oCaV 3 5 S_X5_behind 80))) (nd 81 pc (lf 80 pc (oILd 2 81)) (lf 81 pc (oCpLt 84 99)))) (nd 88 pc (nd 87 pc (lf 84 pc (oInc 6 1 87)) (lf 87 pc (oALd 0 88))) (nd 91 pc (lf 88 pc (oGetR 5 0 91)) (lf 91 pc (oILd 4 93)))))) (nd 108 pc (nd 100 pc (nd 96 pc (nd 95 pc (lf 93 pc (oILd 6 95)) (lf 95 pc (oIAS 96))) (nd 99 pc (lf 96 pc (oGo 63)) (lf 99 pc (oALd 0 100)))) (nd 105 pc (nd 103 pc (lf 100 pc (oGetR 5 0 103)) (lf 103 pc (oILd 4 105))) (nd 107 pc (lf 105 pc (oILd 5 107)) (lf 107 pc (oIAS 108))))) (nd 117 pc (nd 112 pc (nd 110 pc (lf 108 pc (oILd 6 110)) (lf 110 pc (oCst 99 112))) (nd 115 pc (lf 112 pc (oCpGt 120 115)) (lf 115 pc (oILd 6 117)))) (nd 121 pc (nd 120 pc (lf 117 pc (oGo 126)) (lf 120 pc (oALd 0 121))) (nd 123 pc (lf 121 pc (oCst (-1000004) 123)) (nd 126 pc (lf 123 pc (oCaV 2 5 S_X5_finding 126)) (lf 126 pc (oIRet))))))))
theorem ok_X5_causeFor {l : Launch} {G : Gm} : ∀ pc, OkU (TXm l G (rmD 10) 7 cX5_causeFor RX5) (RXm l G (rmD 10) 7 cX5_causeFor RX5 (some .int)) pc (P_X5_causeFor pc) := fun pc => ok_nd (ok_nd (ok_nd (ok_nd (ok_nd (ok_nd (ok_lf (ok_ALdn d_X5_causeFor_0 rfl rfl)) (ok_lf (ok_ILdn d_X5_causeFor_1 rfl rfl))) (ok_nd (ok_lf (ok_CaV su_X5_isDisputant (by decide) rfl d_X5_causeFor_2 q823 q825 z58 q6 q826 ⟨by decide +kernel, by decide +kernel, by decide +kernel⟩ ⟨by decide, by decide⟩ rfl)) (ok_lf (ok_IfEq d_X5_causeFor_5 (by decide) rfl)))) (ok_nd (ok_nd (ok_lf (ok_ILdn d_X5_causeFor_8 rfl rfl)) (ok_lf (ok_ICst d_X5_causeFor_9 (by decide) rfl))) (ok_nd (ok_lf (ok_SCst d_X5_causeFor_10 (by decide) rfl)) (ok_lf (ok_CaS su_X5_within d_X5_causeFor_13 q774 q775 q6 q776 ⟨by decide +kernel, by decide +kernel, by decide +kernel⟩ ⟨by decide, by decide⟩ rfl))))) (ok_nd (ok_nd (ok_nd (ok_lf (ok_IfEq d_X5_causeFor_16 (by decide) rfl)) (ok_lf (ok_ILdn d_X5_causeFor_19 rfl rfl))) (ok_nd (ok_lf (ok_ICst d_X5_causeFor_20 (by decide) rfl)) (ok_lf (ok_BCst d_X5_causeFor_21 (by decide) rfl)))) (ok_nd (ok_nd (ok_lf (ok_CaS su_X5_within d_X5_causeFor_23 q774 q775 q6 q776 ⟨by decide +kernel, by decide +kernel, by decide +kernel⟩ ⟨by decide, by decide⟩ rfl)) (ok_lf (ok_IfNe d_X5_causeFor_26 (by decide) rfl))) (ok_nd (ok_lf (ok_ALdn d_X5_causeFor_29 rfl rfl)) (ok_lf (ok_Ldc d_X5_causeFor_30 q781 rfl)))))) (ok_nd (ok_nd (ok_nd (ok_nd (ok_lf (ok_CaV su_X5_finding (by decide) rfl d_X5_causeFor_32 q782 q784 z56 q6 q785 ⟨by decide +kernel, by decide +kernel, by decide +kernel⟩ ⟨by decide, by decide⟩ rfl)) (ok_lf (ok_IRet d_X5_causeFor_35))) (ok_nd (ok_lf (ok_ILdn d_X5_causeFor_36 rfl rfl)) (ok_lf (ok_ICst d_X5_causeFor_37 (by decide) rfl)))) (ok_nd (ok_nd (ok_lf (ok_CaS su_X5_disputantAt d_X5_causeFor_38 q816 q817 q6 q818 ⟨by decide +kernel, by decide +kernel, by decide +kernel⟩ ⟨by decide, by decide⟩ rfl)) (ok_lf (ok_ISt d_X5_causeFor_41 rfl))) (ok_nd (ok_lf (ok_ALdn d_X5_causeFor_43 rfl rfl)) (ok_lf (ok_GetR (by decide) (by decide) rfl d_X5_causeFor_44 q703 rfl))))) (ok_nd (ok_nd (ok_nd (ok_lf (ok_ILd d_X5_causeFor_47 rfl)) (ok_lf (ok_IAL d_X5_causeFor_49 rfl))) (ok_nd (ok_lf (ok_ISt d_X5_causeFor_50 rfl)) (ok_lf (ok_ICst d_X5_causeFor_52 (by decide) rfl)))) (ok_nd (ok_nd (ok_lf (ok_ISt d_X5_causeFor_53 rfl)) (ok_lf (ok_ALdn d_X5_causeFor_55 rfl rfl))) (ok_nd (ok_lf (ok_GetR (by decide) (by decide) rfl d_X5_causeFor_56 q703 rfl)) (ok_nd (ok_lf (ok_ILd d_X5_causeFor_59 rfl)) (ok_lf (ok_ICst d_X5_causeFor_61 (by decide) rfl)))))))) (ok_nd (ok_nd (ok_nd (ok_nd (ok_nd (ok_lf (ok_IAS d_X5_causeFor_62 rfl)) (ok_lf (ok_lk (ok_ILd d_X5_causeFor_63 rfl)))) (ok_nd (ok_lf (ok_BCst d_X5_causeFor_65 (by decide) rfl)) (ok_lf (ok_CpGt d_X5_causeFor_67 (by decide) rfl)))) (ok_nd (ok_nd (ok_lf (ok_ALdn d_X5_causeFor_70 rfl rfl)) (ok_lf (ok_ILdn d_X5_causeFor_71 rfl rfl))) (ok_nd (ok_lf (ok_ICst d_X5_causeFor_72 (by decide) rfl)) (ok_lf (ok_CaS su_X5_disputantAt d_X5_causeFor_73 q816 q817 q6 q818 ⟨by decide +kernel, by decide +kernel, by decide +kernel⟩ ⟨by decide, by decide⟩ rfl))))) (ok_nd (ok_nd (ok_nd (ok_lf (ok_ILdn d_X5_causeFor_76 rfl rfl)) (ok_lf (ok_CaV su_X5_behind (by decide) rfl d_X5_causeFor_77 q973 q975 z81 q6 q976 ⟨by decide +kernel, by decide +kernel, by decide +kernel⟩ ⟨by decide, by decide⟩ rfl))) (ok_nd (ok_lf (ok_ILdn d_X5_causeFor_80 rfl rfl)) (ok_lf (ok_CpGe d_X5_causeFor_81 (by decide) rfl)))) (ok_nd (ok_nd (ok_lf (ok_Inc d_X5_causeFor_84 (by decide) rfl)) (ok_lf (ok_ALdn d_X5_causeFor_87 rfl rfl))) (ok_nd (ok_lf (ok_GetR (by decide) (by decide) rfl d_X5_causeFor_88 q703 rfl)) (ok_lf (ok_ILd d_X5_causeFor_91 rfl)))))) (ok_nd (ok_nd (ok_nd (ok_nd (ok_lf (ok_ILd d_X5_causeFor_93 rfl)) (ok_lf (ok_IAS d_X5_causeFor_95 rfl))) (ok_nd (ok_lf (ok_Go d_X5_causeFor_96 (by decide))) (ok_lf (ok_ALdn d_X5_causeFor_99 rfl rfl)))) (ok_nd (ok_nd (ok_lf (ok_GetR (by decide) (by decide) rfl d_X5_causeFor_100 q703 rfl)) (ok_lf (ok_ILd d_X5_causeFor_103 rfl))) (ok_nd (ok_lf (ok_ILd d_X5_causeFor_105 rfl)) (ok_lf (ok_IAS d_X5_causeFor_107 rfl))))) (ok_nd (ok_nd (ok_nd (ok_lf (ok_ILd d_X5_causeFor_108 rfl)) (ok_lf (ok_BCst d_X5_causeFor_110 (by decide) rfl))) (ok_nd (ok_lf (ok_CpGt d_X5_causeFor_112 (by decide) rfl)) (ok_lf (ok_ILd d_X5_causeFor_115 rfl)))) (ok_nd (ok_nd (ok_lf (ok_Go d_X5_causeFor_117 (by decide))) (ok_lf (ok_ALdn d_X5_causeFor_120 rfl rfl))) (ok_nd (ok_lf (ok_Ldc d_X5_causeFor_121 q888 rfl)) (ok_nd (ok_lf (ok_CaV su_X5_finding (by decide) rfl d_X5_causeFor_123 q782 q784 z56 q6 q785 ⟨by decide +kernel, by decide +kernel, by decide +kernel⟩ ⟨by decide, by decide⟩ rfl)) (ok_lf (ok_IRet d_X5_causeFor_126))))))))
noncomputable def S_X5_causeFor : Sem := lockS (inl P_X5_causeFor 30000 7) 0
theorem su_X5_causeFor {l : Launch} {G : Gm} : SemU l G yX5_causeFor (wsOf yX5_causeFor cX5_causeFor 7 (some .int)) 10 S_X5_causeFor := sem_lock (sem_inl 30000 (by decide +kernel) rfl ok_X5_causeFor)
theorem d_X5_against_0 : decode cX5_against 0 = .ok (.aload_n 0, 1) := by decide +kernel
theorem d_X5_against_1 : decode cX5_against 1 = .ok (.iload_n 1, 1) := by decide +kernel
theorem d_X5_against_2 : decode cX5_against 2 = .ok (.invokevirtual 121, 3) := by decide +kernel
theorem d_X5_against_5 : decode cX5_against 5 = .ok (.ifCond .eq 10, 3) := by decide +kernel
theorem d_X5_against_8 : decode cX5_against 8 = .ok (.iload_n 2, 1) := by decide +kernel
theorem d_X5_against_9 : decode cX5_against 9 = .ok (.invokestatic 183, 3) := by decide +kernel
theorem d_X5_against_12 : decode cX5_against 12 = .ok (.ifCond .ne 10, 3) := by decide +kernel
theorem d_X5_against_15 : decode cX5_against 15 = .ok (.aload_n 0, 1) := by decide +kernel
theorem d_X5_against_16 : decode cX5_against 16 = .ok (.ldc 60, 2) := by decide +kernel
theorem d_X5_against_18 : decode cX5_against 18 = .ok (.invokevirtual 66, 3) := by decide +kernel
theorem d_X5_against_21 : decode cX5_against 21 = .ok (.ireturn, 1) := by decide +kernel
theorem d_X5_against_22 : decode cX5_against 22 = .ok (.bipush 6, 2) := by decide +kernel
theorem d_X5_against_24 : decode cX5_against 24 = .ok (.aload_n 0, 1) := by decide +kernel
theorem d_X5_against_25 : decode cX5_against 25 = .ok (.getfield 9, 3) := by decide +kernel
theorem d_X5_against_28 : decode cX5_against 28 = .ok (.iconst 0, 1) := by decide +kernel
theorem d_X5_against_29 : decode cX5_against 29 = .ok (.iaload, 1) := by decide +kernel
theorem d_X5_against_30 : decode cX5_against 30 = .ok (.bipush 6, 2) := by decide +kernel
theorem d_X5_against_32 : decode cX5_against 32 = .ok (.irem, 1) := by decide +kernel
theorem d_X5_against_33 : decode cX5_against 33 = .ok (.iadd, 1) := by decide +kernel
theorem d_X5_against_34 : decode cX5_against 34 = .ok (.istore_n 3, 1) := by decide +kernel
theorem d_X5_against_35 : decode cX5_against 35 = .ok (.aload_n 0, 1) := by decide +kernel
theorem d_X5_against_36 : decode cX5_against 36 = .ok (.getfield 9, 3) := by decide +kernel
theorem d_X5_against_39 : decode cX5_against 39 = .ok (.iload_n 3, 1) := by decide +kernel
theorem d_X5_against_40 : decode cX5_against 40 = .ok (.iaload, 1) := by decide +kernel
theorem d_X5_against_41 : decode cX5_against 41 = .ok (.istore 4, 2) := by decide +kernel
theorem d_X5_against_43 : decode cX5_against 43 = .ok (.iconst (-1), 1) := by decide +kernel
theorem d_X5_against_44 : decode cX5_against 44 = .ok (.istore 5, 2) := by decide +kernel
theorem d_X5_against_46 : decode cX5_against 46 = .ok (.iconst (-1), 1) := by decide +kernel
theorem d_X5_against_47 : decode cX5_against 47 = .ok (.istore 6, 2) := by decide +kernel
theorem d_X5_against_49 : decode cX5_against 49 = .ok (.iconst 0, 1) := by decide +kernel
theorem d_X5_against_50 : decode cX5_against 50 = .ok (.istore 7, 2) := by decide +kernel
theorem d_X5_against_52 : decode cX5_against 52 = .ok (.iload 7, 2) := by decide +kernel
theorem d_X5_against_54 : decode cX5_against 54 = .ok (.aload_n 0, 1) := by decide +kernel
theorem d_X5_against_55 : decode cX5_against 55 = .ok (.getfield 9, 3) := by decide +kernel
theorem d_X5_against_58 : decode cX5_against 58 = .ok (.iconst 1, 1) := by decide +kernel
theorem d_X5_against_59 : decode cX5_against 59 = .ok (.iaload, 1) := by decide +kernel
theorem d_X5_against_60 : decode cX5_against 60 = .ok (.if_icmp .ge 59, 3) := by decide +kernel
theorem d_X5_against_63 : decode cX5_against 63 = .ok (.aload_n 0, 1) := by decide +kernel
theorem d_X5_against_64 : decode cX5_against 64 = .ok (.getfield 9, 3) := by decide +kernel
theorem d_X5_against_67 : decode cX5_against 67 = .ok (.iload_n 3, 1) := by decide +kernel
theorem d_X5_against_68 : decode cX5_against 68 = .ok (.bipush 10, 2) := by decide +kernel
theorem d_X5_against_70 : decode cX5_against 70 = .ok (.iload_n 1, 1) := by decide +kernel
theorem d_X5_against_71 : decode cX5_against 71 = .ok (.imul, 1) := by decide +kernel
theorem d_X5_against_72 : decode cX5_against 72 = .ok (.iload 7, 2) := by decide +kernel
theorem d_X5_against_74 : decode cX5_against 74 = .ok (.iadd, 1) := by decide +kernel
theorem d_X5_against_75 : decode cX5_against 75 = .ok (.iastore, 1) := by decide +kernel
theorem d_X5_against_76 : decode cX5_against 76 = .ok (.iload 7, 2) := by decide +kernel
theorem d_X5_against_78 : decode cX5_against 78 = .ok (.iload_n 1, 1) := by decide +kernel
theorem d_X5_against_79 : decode cX5_against 79 = .ok (.if_icmp .ne 7, 3) := by decide +kernel
theorem d_X5_against_82 : decode cX5_against 82 = .ok (.iconst (-1), 1) := by decide +kernel
theorem d_X5_against_83 : decode cX5_against 83 = .ok (.goto 13, 3) := by decide +kernel
theorem d_X5_against_86 : decode cX5_against 86 = .ok (.aload_n 0, 1) := by decide +kernel
theorem d_X5_against_87 : decode cX5_against 87 = .ok (.iload_n 1, 1) := by decide +kernel
theorem d_X5_against_88 : decode cX5_against 88 = .ok (.iconst 4, 1) := by decide +kernel
theorem d_X5_against_89 : decode cX5_against 89 = .ok (.invokestatic 85, 3) := by decide +kernel
theorem d_X5_against_92 : decode cX5_against 92 = .ok (.iload_n 2, 1) := by decide +kernel
theorem d_X5_against_93 : decode cX5_against 93 = .ok (.invokevirtual 186, 3) := by decide +kernel
theorem d_X5_against_96 : decode cX5_against 96 = .ok (.istore 8, 2) := by decide +kernel
theorem d_X5_against_98 : decode cX5_against 98 = .ok (.iload 8, 2) := by decide +kernel
theorem d_X5_against_100 : decode cX5_against 100 = .ok (.iload 6, 2) := by decide +kernel
theorem d_X5_against_102 : decode cX5_against 102 = .ok (.if_icmp .le 11, 3) := by decide +kernel
theorem d_X5_against_105 : decode cX5_against 105 = .ok (.iload 7, 2) := by decide +kernel
theorem d_X5_against_107 : decode cX5_against 107 = .ok (.istore 5, 2) := by decide +kernel
theorem d_X5_against_109 : decode cX5_against 109 = .ok (.iload 8, 2) := by decide +kernel
theorem d_X5_against_111 : decode cX5_against 111 = .ok (.istore 6, 2) := by decide +kernel
theorem d_X5_against_113 : decode cX5_against 113 = .ok (.iinc 7 1, 3) := by decide +kernel
theorem d_X5_against_116 : decode cX5_against 116 = .ok (.goto (-64), 3) := by decide +kernel
theorem d_X5_against_119 : decode cX5_against 119 = .ok (.aload_n 0, 1) := by decide +kernel
theorem d_X5_against_120 : decode cX5_against 120 = .ok (.getfield 9, 3) := by decide +kernel
theorem d_X5_against_123 : decode cX5_against 123 = .ok (.iload_n 3, 1) := by decide +kernel
theorem d_X5_against_124 : decode cX5_against 124 = .ok (.iload 4, 2) := by decide +kernel
theorem d_X5_against_126 : decode cX5_against 126 = .ok (.iastore, 1) := by decide +kernel
theorem d_X5_against_127 : decode cX5_against 127 = .ok (.aload_n 0, 1) := by decide +kernel
theorem d_X5_against_128 : decode cX5_against 128 = .ok (.iload 5, 2) := by decide +kernel
theorem d_X5_against_130 : decode cX5_against 130 = .ok (.invokevirtual 140, 3) := by decide +kernel
theorem d_X5_against_133 : decode cX5_against 133 = .ok (.ireturn, 1) := by decide +kernel
noncomputable def P_X5_against : Nat → Op := fun pc => nd 64 pc (nd 34 pc (nd 18 pc (nd 8 pc (nd 2 pc (nd 1 pc (lf 0 pc (oALd 0 1)) (lf 1 pc (oILd 1 2))) (nd 5 pc (lf 2 pc (oCaV 2 5 S_X5_isDisputant 5)) (lf 5 pc (oIfEq 15 8)))) (nd 12 pc (nd 9 pc (lf 8 pc (oILd 2 9)) (lf 9 pc (oCaS 1 S_X5_isThought 12))) (nd 15 pc (lf 12 pc (oIfEq 15 22)) (nd 16 pc (lf 15 pc (oALd 0 16)) (lf 16 pc (oCst (-1000001) 18)))))) (nd 28 pc (nd 22 pc (nd 21 pc (lf 18 pc (oCaV 2 5 S_X5_finding 21)) (lf 21 pc (oIRet))) (nd 24 pc (lf 22 pc (oCst 6 24)) (nd 25 pc (lf 24 pc (oALd 0 25)) (lf 25 pc (oGetR 5 0 28))))) (nd 30 pc (nd 29 pc (lf 28 pc (oCst 0 29)) (lf 29 pc (oIAL 30))) (nd 32 pc (lf 30 pc (oCst 6 32)) (nd 33 pc (lf 32 pc (oDiv (fun x y => x % y) 33)) (lf 33 pc (oBin (fun x y => x + y) 34))))))) (nd 47 pc (nd 40 pc (nd 36 pc (nd 35 pc (lf 34 pc (oISt 3 35)) (lf 35 pc (oALd 0 36))) (nd 39 pc (lf 36 pc (oGetR 5 0 39)) (lf 39 pc (oILd 3 40)))) (nd 43 pc (nd 41 pc (lf 40 pc (oIAL 41)) (lf 41 pc (oISt 4 43))) (nd 44 pc (lf 43 pc (oCst (-1) 44)) (nd 46 pc (lf 44 pc (oISt 5 46)) (lf 46 pc (oCst (-1) 47)))))) (nd 55 pc (nd 50 pc (nd 49 pc (lf 47 pc (oISt 6 49)) (lf 49 pc (oCst 0 50))) (nd 52 pc (lf 50 pc (oISt 7 52)) (nd 54 pc (lf 52 pc (lockO (oILd 7 54) 0)) (lf 54 pc (oALd 0 55))))) (nd 59 pc (nd 58 pc (lf 55 pc (oGetR 5 0 58)) (lf 58 pc (oCst 1 59))) (nd 60 pc (lf 59 pc (oIAL 60)) (nd 63 pc (lf 60 pc (oCpLt 63 119)) (lf 63 pc (oALd 0 64)))))))) (nd 96 pc (nd 78 pc (nd 71 pc (nd 68 pc (nd 67 pc (lf 64 pc (oGetR 5 0 67)) (lf 67 pc (oILd 3 68))) (nd 70 pc (lf 68 pc (oCst 10 70)) (lf 70 pc (oILd 1 71)))) (nd 74 pc (nd 72 pc (lf 71 pc (oBin (fun x y => x * y) 72)) (lf 72 pc (oILd 7 74))) (nd 75 pc (lf 74 pc (oBin (fun x y => x + y) 75)) (nd 76 pc (lf 75 pc (oIAS 76)) (lf 76 pc (oILd 7 78)))))) (nd 87 pc (nd 82 pc (nd 79 pc (lf 78 pc (oILd 1 79)) (lf 79 pc (oCpEq 82 86))) (nd 83 pc (lf 82 pc (oCst (-1) 83)) (nd 86 pc (lf 83 pc (oGo 96)) (lf 86 pc (oALd 0 87))))) (nd 89 pc (nd 88 pc (lf 87 pc (oILd 1 88)) (lf 88 pc (oCst 4 89))) (nd 92 pc (lf 89 pc (oCaS 2 S_X5_disputantAt 92)) (nd 93 pc (lf 92 pc (oILd 2 93)) (lf 93 pc (oCaV 3 5 S_X5_behind 96))))))) (nd 116 pc (nd 105 pc (nd 100 pc (nd 98 pc (lf 96 pc (oISt 8 98)) (lf 98 pc (oILd 8 100))) (nd 102 pc (lf 100 pc (oILd 6 102)) (lf 102 pc (oCpGt 105 113)))) (nd 109 pc (nd 107 pc (lf 105 pc (oILd 7 107)) (lf 107 pc (oISt 5 109))) (nd 111 pc (lf 109 pc (oILd 8 111)) (nd 113 pc (lf 111 pc (oISt 6 113)) (lf 113 pc (oInc 7 1 116)))))) (nd 126 pc (nd 120 pc (nd 119 pc (lf 116 pc (oGo 52)) (lf 119 pc (oALd 0 120))) (nd 123 pc (lf 120 pc (oGetR 5 0 123)) (nd 124 pc (lf 123 pc (oILd 3 124)) (lf 124 pc (oILd 4 126))))) (nd 128 pc (nd 127 pc (lf 126 pc (oIAS 127)) (lf 127 pc (oALd 0 128))) (nd 130 pc (lf 128 pc (oILd 5 130)) (nd 133 pc (lf 130 pc (oCaV 2 5 S_X5_orNone 133)) (lf 133 pc (oIRet))))))))
theorem ok_X5_against {l : Launch} {G : Gm} : ∀ pc, OkU (TXm l G (rmD 10) 9 cX5_against RX5) (RXm l G (rmD 10) 9 cX5_against RX5 (some .int)) pc (P_X5_against pc) := fun pc => ok_nd (ok_nd (ok_nd (ok_nd (ok_nd (ok_nd (ok_lf (ok_ALdn d_X5_against_0 rfl rfl)) (ok_lf (ok_ILdn d_X5_against_1 rfl rfl))) (ok_nd (ok_lf (ok_CaV su_X5_isDisputant (by decide) rfl d_X5_against_2 q823 q825 z58 q6 q826 ⟨by decide +kernel, by decide +kernel, by decide +kernel⟩ ⟨by decide, by decide⟩ rfl)) (ok_lf (ok_IfEq d_X5_against_5 (by decide) rfl)))) (ok_nd (ok_nd (ok_lf (ok_ILdn d_X5_against_8 rfl rfl)) (ok_lf (ok_CaS su_X5_isThought d_X5_against_9 q970 q971 q6 q972 ⟨by decide +kernel, by decide +kernel, by decide +kernel⟩ ⟨by decide, by decide⟩ rfl))) (ok_nd (ok_lf (ok_IfNe d_X5_against_12 (by decide) rfl)) (ok_nd (ok_lf (ok_ALdn d_X5_against_15 rfl rfl)) (ok_lf (ok_Ldc d_X5_against_16 q781 rfl)))))) (ok_nd (ok_nd (ok_nd (ok_lf (ok_CaV su_X5_finding (by decide) rfl d_X5_against_18 q782 q784 z56 q6 q785 ⟨by decide +kernel, by decide +kernel, by decide +kernel⟩ ⟨by decide, by decide⟩ rfl)) (ok_lf (ok_IRet d_X5_against_21))) (ok_nd (ok_lf (ok_BCst d_X5_against_22 (by decide) rfl)) (ok_nd (ok_lf (ok_ALdn d_X5_against_24 rfl rfl)) (ok_lf (ok_GetR (by decide) (by decide) rfl d_X5_against_25 q703 rfl))))) (ok_nd (ok_nd (ok_lf (ok_ICst d_X5_against_28 (by decide) rfl)) (ok_lf (ok_IAL d_X5_against_29 rfl))) (ok_nd (ok_lf (ok_BCst d_X5_against_30 (by decide) rfl)) (ok_nd (ok_lf (ok_irem d_X5_against_32 rfl)) (ok_lf (ok_iadd d_X5_against_33 rfl))))))) (ok_nd (ok_nd (ok_nd (ok_nd (ok_lf (ok_IStn d_X5_against_34 rfl rfl)) (ok_lf (ok_ALdn d_X5_against_35 rfl rfl))) (ok_nd (ok_lf (ok_GetR (by decide) (by decide) rfl d_X5_against_36 q703 rfl)) (ok_lf (ok_ILdn d_X5_against_39 rfl rfl)))) (ok_nd (ok_nd (ok_lf (ok_IAL d_X5_against_40 rfl)) (ok_lf (ok_ISt d_X5_against_41 rfl))) (ok_nd (ok_lf (ok_ICst d_X5_against_43 (by decide) rfl)) (ok_nd (ok_lf (ok_ISt d_X5_against_44 rfl)) (ok_lf (ok_ICst d_X5_against_46 (by decide) rfl)))))) (ok_nd (ok_nd (ok_nd (ok_lf (ok_ISt d_X5_against_47 rfl)) (ok_lf (ok_ICst d_X5_against_49 (by decide) rfl))) (ok_nd (ok_lf (ok_ISt d_X5_against_50 rfl)) (ok_nd (ok_lf (ok_lk (ok_ILd d_X5_against_52 rfl))) (ok_lf (ok_ALdn d_X5_against_54 rfl rfl))))) (ok_nd (ok_nd (ok_lf (ok_GetR (by decide) (by decide) rfl d_X5_against_55 q703 rfl)) (ok_lf (ok_ICst d_X5_against_58 (by decide) rfl))) (ok_nd (ok_lf (ok_IAL d_X5_against_59 rfl)) (ok_nd (ok_lf (ok_CpGe d_X5_against_60 (by decide) rfl)) (ok_lf (ok_ALdn d_X5_against_63 rfl rfl)))))))) (ok_nd (ok_nd (ok_nd (ok_nd (ok_nd (ok_lf (ok_GetR (by decide) (by decide) rfl d_X5_against_64 q703 rfl)) (ok_lf (ok_ILdn d_X5_against_67 rfl rfl))) (ok_nd (ok_lf (ok_BCst d_X5_against_68 (by decide) rfl)) (ok_lf (ok_ILdn d_X5_against_70 rfl rfl)))) (ok_nd (ok_nd (ok_lf (ok_imul d_X5_against_71 rfl)) (ok_lf (ok_ILd d_X5_against_72 rfl))) (ok_nd (ok_lf (ok_iadd d_X5_against_74 rfl)) (ok_nd (ok_lf (ok_IAS d_X5_against_75 rfl)) (ok_lf (ok_ILd d_X5_against_76 rfl)))))) (ok_nd (ok_nd (ok_nd (ok_lf (ok_ILdn d_X5_against_78 rfl rfl)) (ok_lf (ok_CpNe d_X5_against_79 (by decide) rfl))) (ok_nd (ok_lf (ok_ICst d_X5_against_82 (by decide) rfl)) (ok_nd (ok_lf (ok_Go d_X5_against_83 (by decide))) (ok_lf (ok_ALdn d_X5_against_86 rfl rfl))))) (ok_nd (ok_nd (ok_lf (ok_ILdn d_X5_against_87 rfl rfl)) (ok_lf (ok_ICst d_X5_against_88 (by decide) rfl))) (ok_nd (ok_lf (ok_CaS su_X5_disputantAt d_X5_against_89 q816 q817 q6 q818 ⟨by decide +kernel, by decide +kernel, by decide +kernel⟩ ⟨by decide, by decide⟩ rfl)) (ok_nd (ok_lf (ok_ILdn d_X5_against_92 rfl rfl)) (ok_lf (ok_CaV su_X5_behind (by decide) rfl d_X5_against_93 q973 q975 z81 q6 q976 ⟨by decide +kernel, by decide +kernel, by decide +kernel⟩ ⟨by decide, by decide⟩ rfl))))))) (ok_nd (ok_nd (ok_nd (ok_nd (ok_lf (ok_ISt d_X5_against_96 rfl)) (ok_lf (ok_ILd d_X5_against_98 rfl))) (ok_nd (ok_lf (ok_ILd d_X5_against_100 rfl)) (ok_lf (ok_CpLe d_X5_against_102 (by decide) rfl)))) (ok_nd (ok_nd (ok_lf (ok_ILd d_X5_against_105 rfl)) (ok_lf (ok_ISt d_X5_against_107 rfl))) (ok_nd (ok_lf (ok_ILd d_X5_against_109 rfl)) (ok_nd (ok_lf (ok_ISt d_X5_against_111 rfl)) (ok_lf (ok_Inc d_X5_against_113 (by decide) rfl)))))) (ok_nd (ok_nd (ok_nd (ok_lf (ok_Go d_X5_against_116 (by decide))) (ok_lf (ok_ALdn d_X5_against_119 rfl rfl))) (ok_nd (ok_lf (ok_GetR (by decide) (by decide) rfl d_X5_against_120 q703 rfl)) (ok_nd (ok_lf (ok_ILdn d_X5_against_123 rfl rfl)) (ok_lf (ok_ILd d_X5_against_124 rfl))))) (ok_nd (ok_nd (ok_lf (ok_IAS d_X5_against_126 rfl)) (ok_lf (ok_ALdn d_X5_against_127 rfl rfl))) (ok_nd (ok_lf (ok_ILd d_X5_against_128 rfl)) (ok_nd (ok_lf (ok_CaV su_X5_orNone (by decide) rfl d_X5_against_130 q884 q886 z69 q6 q887 ⟨by decide +kernel, by decide +kernel, by decide +kernel⟩ ⟨by decide, by decide⟩ rfl)) (ok_lf (ok_IRet d_X5_against_133))))))))
noncomputable def S_X5_against : Sem := lockS (inl P_X5_against 30000 9) 0
theorem su_X5_against {l : Launch} {G : Gm} : SemU l G yX5_against (wsOf yX5_against cX5_against 9 (some .int)) 10 S_X5_against := sem_lock (sem_inl 30000 (by decide +kernel) rfl ok_X5_against)
theorem d_X5_isWithout_0 : decode cX5_isWithout 0 = .ok (.aload_n 0, 1) := by decide +kernel
theorem d_X5_isWithout_1 : decode cX5_isWithout 1 = .ok (.iload_n 2, 1) := by decide +kernel
theorem d_X5_isWithout_2 : decode cX5_isWithout 2 = .ok (.iconst 3, 1) := by decide +kernel
theorem d_X5_isWithout_3 : decode cX5_isWithout 3 = .ok (.invokevirtual 95, 3) := by decide +kernel
theorem d_X5_isWithout_6 : decode cX5_isWithout 6 = .ok (.istore 4, 2) := by decide +kernel
theorem d_X5_isWithout_8 : decode cX5_isWithout 8 = .ok (.aload_n 0, 1) := by decide +kernel
theorem d_X5_isWithout_9 : decode cX5_isWithout 9 = .ok (.getfield 9, 3) := by decide +kernel
theorem d_X5_isWithout_12 : decode cX5_isWithout 12 = .ok (.aload_n 0, 1) := by decide +kernel
theorem d_X5_isWithout_13 : decode cX5_isWithout 13 = .ok (.getfield 16, 3) := by decide +kernel
theorem d_X5_isWithout_16 : decode cX5_isWithout 16 = .ok (.invokestatic 61, 3) := by decide +kernel
theorem d_X5_isWithout_19 : decode cX5_isWithout 19 = .ok (.iconst 0, 1) := by decide +kernel
theorem d_X5_isWithout_20 : decode cX5_isWithout 20 = .ok (.istore 5, 2) := by decide +kernel
theorem d_X5_isWithout_22 : decode cX5_isWithout 22 = .ok (.iload 5, 2) := by decide +kernel
theorem d_X5_isWithout_24 : decode cX5_isWithout 24 = .ok (.aload_n 0, 1) := by decide +kernel
theorem d_X5_isWithout_25 : decode cX5_isWithout 25 = .ok (.getfield 9, 3) := by decide +kernel
theorem d_X5_isWithout_28 : decode cX5_isWithout 28 = .ok (.iconst 1, 1) := by decide +kernel
theorem d_X5_isWithout_29 : decode cX5_isWithout 29 = .ok (.iaload, 1) := by decide +kernel
theorem d_X5_isWithout_30 : decode cX5_isWithout 30 = .ok (.if_icmp .ge 31, 3) := by decide +kernel
theorem d_X5_isWithout_33 : decode cX5_isWithout 33 = .ok (.iload_n 1, 1) := by decide +kernel
theorem d_X5_isWithout_34 : decode cX5_isWithout 34 = .ok (.iload 5, 2) := by decide +kernel
theorem d_X5_isWithout_36 : decode cX5_isWithout 36 = .ok (.ishr, 1) := by decide +kernel
theorem d_X5_isWithout_37 : decode cX5_isWithout 37 = .ok (.iconst 1, 1) := by decide +kernel
theorem d_X5_isWithout_38 : decode cX5_isWithout 38 = .ok (.iand, 1) := by decide +kernel
theorem d_X5_isWithout_39 : decode cX5_isWithout 39 = .ok (.iconst 1, 1) := by decide +kernel
theorem d_X5_isWithout_40 : decode cX5_isWithout 40 = .ok (.if_icmp .ne 15, 3) := by decide +kernel
theorem d_X5_isWithout_43 : decode cX5_isWithout 43 = .ok (.aload_n 0, 1) := by decide +kernel
theorem d_X5_isWithout_44 : decode cX5_isWithout 44 = .ok (.getfield 9, 3) := by decide +kernel
theorem d_X5_isWithout_47 : decode cX5_isWithout 47 = .ok (.iload 5, 2) := by decide +kernel
theorem d_X5_isWithout_49 : decode cX5_isWithout 49 = .ok (.iconst 5, 1) := by decide +kernel
theorem d_X5_isWithout_50 : decode cX5_isWithout 50 = .ok (.invokestatic 85, 3) := by decide +kernel
theorem d_X5_isWithout_53 : decode cX5_isWithout 53 = .ok (.iconst 1, 1) := by decide +kernel
theorem d_X5_isWithout_54 : decode cX5_isWithout 54 = .ok (.iastore, 1) := by decide +kernel
theorem d_X5_isWithout_55 : decode cX5_isWithout 55 = .ok (.iinc 5 1, 3) := by decide +kernel
theorem d_X5_isWithout_58 : decode cX5_isWithout 58 = .ok (.goto (-36), 3) := by decide +kernel
theorem d_X5_isWithout_61 : decode cX5_isWithout 61 = .ok (.aload_n 0, 1) := by decide +kernel
theorem d_X5_isWithout_62 : decode cX5_isWithout 62 = .ok (.iload_n 3, 1) := by decide +kernel
theorem d_X5_isWithout_63 : decode cX5_isWithout 63 = .ok (.invokevirtual 160, 3) := by decide +kernel
theorem d_X5_isWithout_66 : decode cX5_isWithout 66 = .ok (.aload_n 0, 1) := by decide +kernel
theorem d_X5_isWithout_67 : decode cX5_isWithout 67 = .ok (.iload_n 2, 1) := by decide +kernel
theorem d_X5_isWithout_68 : decode cX5_isWithout 68 = .ok (.iconst 3, 1) := by decide +kernel
theorem d_X5_isWithout_69 : decode cX5_isWithout 69 = .ok (.invokevirtual 95, 3) := by decide +kernel
theorem d_X5_isWithout_72 : decode cX5_isWithout 72 = .ok (.iload 4, 2) := by decide +kernel
theorem d_X5_isWithout_74 : decode cX5_isWithout 74 = .ok (.if_icmp .ne 7, 3) := by decide +kernel
theorem d_X5_isWithout_77 : decode cX5_isWithout 77 = .ok (.iconst 1, 1) := by decide +kernel
theorem d_X5_isWithout_78 : decode cX5_isWithout 78 = .ok (.goto 4, 3) := by decide +kernel
theorem d_X5_isWithout_81 : decode cX5_isWithout 81 = .ok (.iconst 0, 1) := by decide +kernel
theorem d_X5_isWithout_82 : decode cX5_isWithout 82 = .ok (.istore 5, 2) := by decide +kernel
theorem d_X5_isWithout_84 : decode cX5_isWithout 84 = .ok (.aload_n 0, 1) := by decide +kernel
theorem d_X5_isWithout_85 : decode cX5_isWithout 85 = .ok (.getfield 16, 3) := by decide +kernel
theorem d_X5_isWithout_88 : decode cX5_isWithout 88 = .ok (.aload_n 0, 1) := by decide +kernel
theorem d_X5_isWithout_89 : decode cX5_isWithout 89 = .ok (.getfield 9, 3) := by decide +kernel
theorem d_X5_isWithout_92 : decode cX5_isWithout 92 = .ok (.invokestatic 61, 3) := by decide +kernel
theorem d_X5_isWithout_95 : decode cX5_isWithout 95 = .ok (.iload 5, 2) := by decide +kernel
theorem d_X5_isWithout_97 : decode cX5_isWithout 97 = .ok (.ireturn, 1) := by decide +kernel
noncomputable def P_X5_isWithout : Nat → Op := fun pc => nd 47 pc (nd 24 pc (nd 9 pc (nd 3 pc (nd 1 pc (lf 0 pc (oALd 0 1)) (nd 2 pc (lf 1 pc (oILd 2 2)) (lf 2 pc (oCst 3 3)))) (nd 6 pc (lf 3 pc (oCaV 3 5 S_X5_disputantIs 6)) (nd 8 pc (lf 6 pc (oISt 4 8)) (lf 8 pc (oALd 0 9))))) (nd 16 pc (nd 12 pc (lf 9 pc (oGetR 5 0 12)) (nd 13 pc (lf 12 pc (oALd 0 13)) (lf 13 pc (oGetR 5 2 16)))) (nd 20 pc (nd 19 pc (lf 16 pc (oCaS 2 S_X5_copyRow 19)) (lf 19 pc (oCst 0 20))) (nd 22 pc (lf 20 pc (oISt 5 22)) (lf 22 pc (lockO (oILd 5 24) 0)))))) (nd 36 pc (nd 29 pc (nd 25 pc (lf 24 pc (oALd 0 25)) (nd 28 pc (lf 25 pc (oGetR 5 0 28)) (lf 28 pc (oCst 1 29)))) (nd 33 pc (nd 30 pc (lf 29 pc (oIAL 30)) (lf 30 pc (oCpLt 33 61))) (nd 34 pc (lf 33 pc (oILd 1 34)) (lf 34 pc (oILd 5 36))))) (nd 39 pc (nd 37 pc (lf 36 pc (oBin (fun x y => x >>> (y &&& 31)) 37)) (nd 38 pc (lf 37 pc (oCst 1 38)) (lf 38 pc (oBin (fun x y => x &&& y) 39)))) (nd 43 pc (nd 40 pc (lf 39 pc (oCst 1 40)) (lf 40 pc (oCpEq 43 55))) (nd 44 pc (lf 43 pc (oALd 0 44)) (lf 44 pc (oGetR 5 0 47))))))) (nd 69 pc (nd 58 pc (nd 53 pc (nd 49 pc (lf 47 pc (oILd 5 49)) (nd 50 pc (lf 49 pc (oCst 5 50)) (lf 50 pc (oCaS 2 S_X5_disputantAt 53)))) (nd 54 pc (lf 53 pc (oCst 1 54)) (nd 55 pc (lf 54 pc (oIAS 55)) (lf 55 pc (oInc 5 1 58))))) (nd 63 pc (nd 61 pc (lf 58 pc (oGo 22)) (nd 62 pc (lf 61 pc (oALd 0 62)) (lf 62 pc (oILd 3 63)))) (nd 67 pc (nd 66 pc (lf 63 pc (oCaV 2 5 S_X5_dropsGo 66)) (lf 66 pc (oALd 0 67))) (nd 68 pc (lf 67 pc (oILd 2 68)) (lf 68 pc (oCst 3 69)))))) (nd 84 pc (nd 77 pc (nd 72 pc (lf 69 pc (oCaV 3 5 S_X5_disputantIs 72)) (nd 74 pc (lf 72 pc (oILd 4 74)) (lf 74 pc (oCpEq 77 81)))) (nd 81 pc (nd 78 pc (lf 77 pc (oCst 1 78)) (lf 78 pc (oGo 82))) (nd 82 pc (lf 81 pc (oCst 0 82)) (lf 82 pc (oISt 5 84))))) (nd 89 pc (nd 85 pc (lf 84 pc (oALd 0 85)) (nd 88 pc (lf 85 pc (oGetR 5 2 88)) (lf 88 pc (oALd 0 89)))) (nd 95 pc (nd 92 pc (lf 89 pc (oGetR 5 0 92)) (lf 92 pc (oCaS 2 S_X5_copyRow 95))) (nd 97 pc (lf 95 pc (oILd 5 97)) (lf 97 pc (oZRet)))))))
theorem ok_X5_isWithout {l : Launch} {G : Gm} : ∀ pc, OkU (TXm l G (rmD 9) 6 cX5_isWithout RX5) (RXm l G (rmD 9) 6 cX5_isWithout RX5 (some .boolean)) pc (P_X5_isWithout pc) := fun pc => ok_nd (ok_nd (ok_nd (ok_nd (ok_nd (ok_lf (ok_ALdn d_X5_isWithout_0 rfl rfl)) (ok_nd (ok_lf (ok_ILdn d_X5_isWithout_1 rfl rfl)) (ok_lf (ok_ICst d_X5_isWithout_2 (by decide) rfl)))) (ok_nd (ok_lf (ok_CaV su_X5_disputantIs (by decide) rfl d_X5_isWithout_3 q835 q837 z61 q6 q838 ⟨by decide +kernel, by decide +kernel, by decide +kernel⟩ ⟨by decide, by decide⟩ rfl)) (ok_nd (ok_lf (ok_ISt d_X5_isWithout_6 rfl)) (ok_lf (ok_ALdn d_X5_isWithout_8 rfl rfl))))) (ok_nd (ok_nd (ok_lf (ok_GetR (by decide) (by decide) rfl d_X5_isWithout_9 q703 rfl)) (ok_nd (ok_lf (ok_ALdn d_X5_isWithout_12 rfl rfl)) (ok_lf (ok_GetR (by decide) (by decide) rfl d_X5_isWithout_13 q705 rfl)))) (ok_nd (ok_nd (ok_lf (ok_CaS su_X5_copyRow d_X5_isWithout_16 q939 q940 q6 q941 ⟨by decide +kernel, by decide +kernel, by decide +kernel⟩ ⟨by decide, by decide⟩ rfl)) (ok_lf (ok_ICst d_X5_isWithout_19 (by decide) rfl))) (ok_nd (ok_lf (ok_ISt d_X5_isWithout_20 rfl)) (ok_lf (ok_lk (ok_ILd d_X5_isWithout_22 rfl))))))) (ok_nd (ok_nd (ok_nd (ok_lf (ok_ALdn d_X5_isWithout_24 rfl rfl)) (ok_nd (ok_lf (ok_GetR (by decide) (by decide) rfl d_X5_isWithout_25 q703 rfl)) (ok_lf (ok_ICst d_X5_isWithout_28 (by decide) rfl)))) (ok_nd (ok_nd (ok_lf (ok_IAL d_X5_isWithout_29 rfl)) (ok_lf (ok_CpGe d_X5_isWithout_30 (by decide) rfl))) (ok_nd (ok_lf (ok_ILdn d_X5_isWithout_33 rfl rfl)) (ok_lf (ok_ILd d_X5_isWithout_34 rfl))))) (ok_nd (ok_nd (ok_lf (ok_ishr d_X5_isWithout_36 rfl)) (ok_nd (ok_lf (ok_ICst d_X5_isWithout_37 (by decide) rfl)) (ok_lf (ok_iand d_X5_isWithout_38 rfl)))) (ok_nd (ok_nd (ok_lf (ok_ICst d_X5_isWithout_39 (by decide) rfl)) (ok_lf (ok_CpNe d_X5_isWithout_40 (by decide) rfl))) (ok_nd (ok_lf (ok_ALdn d_X5_isWithout_43 rfl rfl)) (ok_lf (ok_GetR (by decide) (by decide) rfl d_X5_isWithout_44 q703 rfl))))))) (ok_nd (ok_nd (ok_nd (ok_nd (ok_lf (ok_ILd d_X5_isWithout_47 rfl)) (ok_nd (ok_lf (ok_ICst d_X5_isWithout_49 (by decide) rfl)) (ok_lf (ok_CaS su_X5_disputantAt d_X5_isWithout_50 q816 q817 q6 q818 ⟨by decide +kernel, by decide +kernel, by decide +kernel⟩ ⟨by decide, by decide⟩ rfl)))) (ok_nd (ok_lf (ok_ICst d_X5_isWithout_53 (by decide) rfl)) (ok_nd (ok_lf (ok_IAS d_X5_isWithout_54 rfl)) (ok_lf (ok_Inc d_X5_isWithout_55 (by decide) rfl))))) (ok_nd (ok_nd (ok_lf (ok_Go d_X5_isWithout_58 (by decide))) (ok_nd (ok_lf (ok_ALdn d_X5_isWithout_61 rfl rfl)) (ok_lf (ok_ILdn d_X5_isWithout_62 rfl rfl)))) (ok_nd (ok_nd (ok_lf (ok_CaV su_X5_dropsGo (by decide) rfl d_X5_isWithout_63 q895 q897 z70 q6 q898 ⟨by decide +kernel, by decide +kernel, by decide +kernel⟩ ⟨by decide, by decide⟩ rfl)) (ok_lf (ok_ALdn d_X5_isWithout_66 rfl rfl))) (ok_nd (ok_lf (ok_ILdn d_X5_isWithout_67 rfl rfl)) (ok_lf (ok_ICst d_X5_isWithout_68 (by decide) rfl)))))) (ok_nd (ok_nd (ok_nd (ok_lf (ok_CaV su_X5_disputantIs (by decide) rfl d_X5_isWithout_69 q835 q837 z61 q6 q838 ⟨by decide +kernel, by decide +kernel, by decide +kernel⟩ ⟨by decide, by decide⟩ rfl)) (ok_nd (ok_lf (ok_ILd d_X5_isWithout_72 rfl)) (ok_lf (ok_CpNe d_X5_isWithout_74 (by decide) rfl)))) (ok_nd (ok_nd (ok_lf (ok_ICst d_X5_isWithout_77 (by decide) rfl)) (ok_lf (ok_Go d_X5_isWithout_78 (by decide)))) (ok_nd (ok_lf (ok_ICst d_X5_isWithout_81 (by decide) rfl)) (ok_lf (ok_ISt d_X5_isWithout_82 rfl))))) (ok_nd (ok_nd (ok_lf (ok_ALdn d_X5_isWithout_84 rfl rfl)) (ok_nd (ok_lf (ok_GetR (by decide) (by decide) rfl d_X5_isWithout_85 q705 rfl)) (ok_lf (ok_ALdn d_X5_isWithout_88 rfl rfl)))) (ok_nd (ok_nd (ok_lf (ok_GetR (by decide) (by decide) rfl d_X5_isWithout_89 q703 rfl)) (ok_lf (ok_CaS su_X5_copyRow d_X5_isWithout_92 q939 q940 q6 q941 ⟨by decide +kernel, by decide +kernel, by decide +kernel⟩ ⟨by decide, by decide⟩ rfl))) (ok_nd (ok_lf (ok_ILd d_X5_isWithout_95 rfl)) (ok_lf (ok_ZRet d_X5_isWithout_97)))))))
noncomputable def S_X5_isWithout : Sem := lockS (inl P_X5_isWithout 30000 6) 0
theorem su_X5_isWithout {l : Launch} {G : Gm} : SemU l G yX5_isWithout (wsOf yX5_isWithout cX5_isWithout 6 (some .boolean)) 9 S_X5_isWithout := sem_lock (sem_inl 30000 (by decide +kernel) rfl ok_X5_isWithout)
theorem d_X5_silence_0 : decode cX5_silence 0 = .ok (.aload_n 0, 1) := by decide +kernel
theorem d_X5_silence_1 : decode cX5_silence 1 = .ok (.iload_n 1, 1) := by decide +kernel
theorem d_X5_silence_2 : decode cX5_silence 2 = .ok (.invokevirtual 121, 3) := by decide +kernel
theorem d_X5_silence_5 : decode cX5_silence 5 = .ok (.ifCond .eq 13, 3) := by decide +kernel
theorem d_X5_silence_8 : decode cX5_silence 8 = .ok (.iload_n 2, 1) := by decide +kernel
theorem d_X5_silence_9 : decode cX5_silence 9 = .ok (.iconst 0, 1) := by decide +kernel
theorem d_X5_silence_10 : decode cX5_silence 10 = .ok (.bipush 20, 2) := by decide +kernel
theorem d_X5_silence_12 : decode cX5_silence 12 = .ok (.invokestatic 70, 3) := by decide +kernel
theorem d_X5_silence_15 : decode cX5_silence 15 = .ok (.ifCond .ne 10, 3) := by decide +kernel
theorem d_X5_silence_18 : decode cX5_silence 18 = .ok (.aload_n 0, 1) := by decide +kernel
theorem d_X5_silence_19 : decode cX5_silence 19 = .ok (.ldc 60, 2) := by decide +kernel
theorem d_X5_silence_21 : decode cX5_silence 21 = .ok (.invokevirtual 66, 3) := by decide +kernel
theorem d_X5_silence_24 : decode cX5_silence 24 = .ok (.ireturn, 1) := by decide +kernel
theorem d_X5_silence_25 : decode cX5_silence 25 = .ok (.iconst (-1), 1) := by decide +kernel
theorem d_X5_silence_26 : decode cX5_silence 26 = .ok (.istore_n 3, 1) := by decide +kernel
theorem d_X5_silence_27 : decode cX5_silence 27 = .ok (.iconst 1, 1) := by decide +kernel
theorem d_X5_silence_28 : decode cX5_silence 28 = .ok (.aload_n 0, 1) := by decide +kernel
theorem d_X5_silence_29 : decode cX5_silence 29 = .ok (.getfield 9, 3) := by decide +kernel
theorem d_X5_silence_32 : decode cX5_silence 32 = .ok (.iconst 1, 1) := by decide +kernel
theorem d_X5_silence_33 : decode cX5_silence 33 = .ok (.iaload, 1) := by decide +kernel
theorem d_X5_silence_34 : decode cX5_silence 34 = .ok (.ishl, 1) := by decide +kernel
theorem d_X5_silence_35 : decode cX5_silence 35 = .ok (.iconst 1, 1) := by decide +kernel
theorem d_X5_silence_36 : decode cX5_silence 36 = .ok (.isub, 1) := by decide +kernel
theorem d_X5_silence_37 : decode cX5_silence 37 = .ok (.istore 4, 2) := by decide +kernel
theorem d_X5_silence_39 : decode cX5_silence 39 = .ok (.iload 4, 2) := by decide +kernel
theorem d_X5_silence_41 : decode cX5_silence 41 = .ok (.ifCond .lt 64, 3) := by decide +kernel
theorem d_X5_silence_44 : decode cX5_silence 44 = .ok (.iload 4, 2) := by decide +kernel
theorem d_X5_silence_46 : decode cX5_silence 46 = .ok (.iload_n 1, 1) := by decide +kernel
theorem d_X5_silence_47 : decode cX5_silence 47 = .ok (.ishr, 1) := by decide +kernel
theorem d_X5_silence_48 : decode cX5_silence 48 = .ok (.iconst 1, 1) := by decide +kernel
theorem d_X5_silence_49 : decode cX5_silence 49 = .ok (.iand, 1) := by decide +kernel
theorem d_X5_silence_50 : decode cX5_silence 50 = .ok (.ifCond .ne 23, 3) := by decide +kernel
theorem d_X5_silence_53 : decode cX5_silence 53 = .ok (.iload_n 3, 1) := by decide +kernel
theorem d_X5_silence_54 : decode cX5_silence 54 = .ok (.ifCond .lt 15, 3) := by decide +kernel
theorem d_X5_silence_57 : decode cX5_silence 57 = .ok (.iload 4, 2) := by decide +kernel
theorem d_X5_silence_59 : decode cX5_silence 59 = .ok (.invokestatic 193, 3) := by decide +kernel
theorem d_X5_silence_62 : decode cX5_silence 62 = .ok (.iload_n 3, 1) := by decide +kernel
theorem d_X5_silence_63 : decode cX5_silence 63 = .ok (.invokestatic 193, 3) := by decide +kernel
theorem d_X5_silence_66 : decode cX5_silence 66 = .ok (.if_icmp .gt 7, 3) := by decide +kernel
theorem d_X5_silence_69 : decode cX5_silence 69 = .ok (.iconst 1, 1) := by decide +kernel
theorem d_X5_silence_70 : decode cX5_silence 70 = .ok (.goto 4, 3) := by decide +kernel
theorem d_X5_silence_73 : decode cX5_silence 73 = .ok (.iconst 0, 1) := by decide +kernel
theorem d_X5_silence_74 : decode cX5_silence 74 = .ok (.istore 5, 2) := by decide +kernel
theorem d_X5_silence_76 : decode cX5_silence 76 = .ok (.iload 5, 2) := by decide +kernel
theorem d_X5_silence_78 : decode cX5_silence 78 = .ok (.ifCond .eq 19, 3) := by decide +kernel
theorem d_X5_silence_81 : decode cX5_silence 81 = .ok (.aload_n 0, 1) := by decide +kernel
theorem d_X5_silence_82 : decode cX5_silence 82 = .ok (.iload 4, 2) := by decide +kernel
theorem d_X5_silence_84 : decode cX5_silence 84 = .ok (.iload_n 1, 1) := by decide +kernel
theorem d_X5_silence_85 : decode cX5_silence 85 = .ok (.iload_n 2, 1) := by decide +kernel
theorem d_X5_silence_86 : decode cX5_silence 86 = .ok (.invokevirtual 196, 3) := by decide +kernel
theorem d_X5_silence_89 : decode cX5_silence 89 = .ok (.ifCond .eq 8, 3) := by decide +kernel
theorem d_X5_silence_92 : decode cX5_silence 92 = .ok (.iload 4, 2) := by decide +kernel
theorem d_X5_silence_94 : decode cX5_silence 94 = .ok (.goto 4, 3) := by decide +kernel
theorem d_X5_silence_97 : decode cX5_silence 97 = .ok (.iload_n 3, 1) := by decide +kernel
theorem d_X5_silence_98 : decode cX5_silence 98 = .ok (.istore_n 3, 1) := by decide +kernel
theorem d_X5_silence_99 : decode cX5_silence 99 = .ok (.iinc 4 (-1), 3) := by decide +kernel
theorem d_X5_silence_102 : decode cX5_silence 102 = .ok (.goto (-63), 3) := by decide +kernel
theorem d_X5_silence_105 : decode cX5_silence 105 = .ok (.aload_n 0, 1) := by decide +kernel
theorem d_X5_silence_106 : decode cX5_silence 106 = .ok (.iload_n 3, 1) := by decide +kernel
theorem d_X5_silence_107 : decode cX5_silence 107 = .ok (.invokevirtual 140, 3) := by decide +kernel
theorem d_X5_silence_110 : decode cX5_silence 110 = .ok (.ireturn, 1) := by decide +kernel
noncomputable def P_X5_silence : Nat → Op := fun pc => nd 49 pc (nd 27 pc (nd 12 pc (nd 5 pc (nd 1 pc (lf 0 pc (oALd 0 1)) (nd 2 pc (lf 1 pc (oILd 1 2)) (lf 2 pc (oCaV 2 5 S_X5_isDisputant 5)))) (nd 9 pc (nd 8 pc (lf 5 pc (oIfEq 18 8)) (lf 8 pc (oILd 2 9))) (nd 10 pc (lf 9 pc (oCst 0 10)) (lf 10 pc (oCst 20 12))))) (nd 21 pc (nd 18 pc (nd 15 pc (lf 12 pc (oCaS 3 S_X5_within 15)) (lf 15 pc (oIfEq 18 25))) (nd 19 pc (lf 18 pc (oALd 0 19)) (lf 19 pc (oCst (-1000001) 21)))) (nd 25 pc (nd 24 pc (lf 21 pc (oCaV 2 5 S_X5_finding 24)) (lf 24 pc (oIRet))) (nd 26 pc (lf 25 pc (oCst (-1) 26)) (lf 26 pc (oISt 3 27)))))) (nd 36 pc (nd 32 pc (nd 28 pc (lf 27 pc (oCst 1 28)) (nd 29 pc (lf 28 pc (oALd 0 29)) (lf 29 pc (oGetR 5 0 32)))) (nd 34 pc (nd 33 pc (lf 32 pc (oCst 1 33)) (lf 33 pc (oIAL 34))) (nd 35 pc (lf 34 pc (oBin (fun x y => x <<< (y &&& 31)) 35)) (lf 35 pc (oCst 1 36))))) (nd 44 pc (nd 39 pc (nd 37 pc (lf 36 pc (oBin (fun x y => x - y) 37)) (lf 37 pc (oISt 4 39))) (nd 41 pc (lf 39 pc (lockO (oILd 4 41) 0)) (lf 41 pc (oIfLt 105 44)))) (nd 47 pc (nd 46 pc (lf 44 pc (oILd 4 46)) (lf 46 pc (oILd 1 47))) (nd 48 pc (lf 47 pc (oBin (fun x y => x >>> (y &&& 31)) 48)) (lf 48 pc (oCst 1 49))))))) (nd 81 pc (nd 63 pc (nd 54 pc (nd 50 pc (lf 49 pc (oBin (fun x y => x &&& y) 50)) (nd 53 pc (lf 50 pc (oIfEq 53 73)) (lf 53 pc (oILd 3 54)))) (nd 59 pc (nd 57 pc (lf 54 pc (oIfLt 69 57)) (lf 57 pc (oILd 4 59))) (nd 62 pc (lf 59 pc (oCaS 1 S_X5_bits 62)) (lf 62 pc (oILd 3 63))))) (nd 73 pc (nd 69 pc (nd 66 pc (lf 63 pc (oCaS 1 S_X5_bits 66)) (lf 66 pc (oCpGt 73 69))) (nd 70 pc (lf 69 pc (oCst 1 70)) (lf 70 pc (oGo 74)))) (nd 76 pc (nd 74 pc (lf 73 pc (oCst 0 74)) (lf 74 pc (oISt 5 76))) (nd 78 pc (lf 76 pc (oILd 5 78)) (lf 78 pc (oIfEq 97 81)))))) (nd 97 pc (nd 86 pc (nd 84 pc (nd 82 pc (lf 81 pc (oALd 0 82)) (lf 82 pc (oILd 4 84))) (nd 85 pc (lf 84 pc (oILd 1 85)) (lf 85 pc (oILd 2 86)))) (nd 92 pc (nd 89 pc (lf 86 pc (oCaV 4 5 S_X5_isWithout 89)) (lf 89 pc (oIfEq 97 92))) (nd 94 pc (lf 92 pc (oILd 4 94)) (lf 94 pc (oGo 98))))) (nd 105 pc (nd 99 pc (nd 98 pc (lf 97 pc (oILd 3 98)) (lf 98 pc (oISt 3 99))) (nd 102 pc (lf 99 pc (oInc 4 (-1) 102)) (lf 102 pc (oGo 39)))) (nd 107 pc (nd 106 pc (lf 105 pc (oALd 0 106)) (lf 106 pc (oILd 3 107))) (nd 110 pc (lf 107 pc (oCaV 2 5 S_X5_orNone 110)) (lf 110 pc (oIRet)))))))
theorem ok_X5_silence {l : Launch} {G : Gm} : ∀ pc, OkU (TXm l G (rmD 10) 6 cX5_silence RX5) (RXm l G (rmD 10) 6 cX5_silence RX5 (some .int)) pc (P_X5_silence pc) := fun pc => ok_nd (ok_nd (ok_nd (ok_nd (ok_nd (ok_lf (ok_ALdn d_X5_silence_0 rfl rfl)) (ok_nd (ok_lf (ok_ILdn d_X5_silence_1 rfl rfl)) (ok_lf (ok_CaV su_X5_isDisputant (by decide) rfl d_X5_silence_2 q823 q825 z58 q6 q826 ⟨by decide +kernel, by decide +kernel, by decide +kernel⟩ ⟨by decide, by decide⟩ rfl)))) (ok_nd (ok_nd (ok_lf (ok_IfEq d_X5_silence_5 (by decide) rfl)) (ok_lf (ok_ILdn d_X5_silence_8 rfl rfl))) (ok_nd (ok_lf (ok_ICst d_X5_silence_9 (by decide) rfl)) (ok_lf (ok_BCst d_X5_silence_10 (by decide) rfl))))) (ok_nd (ok_nd (ok_nd (ok_lf (ok_CaS su_X5_within d_X5_silence_12 q774 q775 q6 q776 ⟨by decide +kernel, by decide +kernel, by decide +kernel⟩ ⟨by decide, by decide⟩ rfl)) (ok_lf (ok_IfNe d_X5_silence_15 (by decide) rfl))) (ok_nd (ok_lf (ok_ALdn d_X5_silence_18 rfl rfl)) (ok_lf (ok_Ldc d_X5_silence_19 q781 rfl)))) (ok_nd (ok_nd (ok_lf (ok_CaV su_X5_finding (by decide) rfl d_X5_silence_21 q782 q784 z56 q6 q785 ⟨by decide +kernel, by decide +kernel, by decide +kernel⟩ ⟨by decide, by decide⟩ rfl)) (ok_lf (ok_IRet d_X5_silence_24))) (ok_nd (ok_lf (ok_ICst d_X5_silence_25 (by decide) rfl)) (ok_lf (ok_IStn d_X5_silence_26 rfl rfl)))))) (ok_nd (ok_nd (ok_nd (ok_lf (ok_ICst d_X5_silence_27 (by decide) rfl)) (ok_nd (ok_lf (ok_ALdn d_X5_silence_28 rfl rfl)) (ok_lf (ok_GetR (by decide) (by decide) rfl d_X5_silence_29 q703 rfl)))) (ok_nd (ok_nd (ok_lf (ok_ICst d_X5_silence_32 (by decide) rfl)) (ok_lf (ok_IAL d_X5_silence_33 rfl))) (ok_nd (ok_lf (ok_ishl d_X5_silence_34 rfl)) (ok_lf (ok_ICst d_X5_silence_35 (by decide) rfl))))) (ok_nd (ok_nd (ok_nd (ok_lf (ok_isub d_X5_silence_36 rfl)) (ok_lf (ok_ISt d_X5_silence_37 rfl))) (ok_nd (ok_lf (ok_lk (ok_ILd d_X5_silence_39 rfl))) (ok_lf (ok_IfLt d_X5_silence_41 (by decide) rfl)))) (ok_nd (ok_nd (ok_lf (ok_ILd d_X5_silence_44 rfl)) (ok_lf (ok_ILdn d_X5_silence_46 rfl rfl))) (ok_nd (ok_lf (ok_ishr d_X5_silence_47 rfl)) (ok_lf (ok_ICst d_X5_silence_48 (by decide) rfl))))))) (ok_nd (ok_nd (ok_nd (ok_nd (ok_lf (ok_iand d_X5_silence_49 rfl)) (ok_nd (ok_lf (ok_IfNe d_X5_silence_50 (by decide) rfl)) (ok_lf (ok_ILdn d_X5_silence_53 rfl rfl)))) (ok_nd (ok_nd (ok_lf (ok_IfLt d_X5_silence_54 (by decide) rfl)) (ok_lf (ok_ILd d_X5_silence_57 rfl))) (ok_nd (ok_lf (ok_CaS su_X5_bits d_X5_silence_59 q1001 q1002 q6 q1003 ⟨by decide +kernel, by decide +kernel, by decide +kernel⟩ ⟨by decide, by decide⟩ rfl)) (ok_lf (ok_ILdn d_X5_silence_62 rfl rfl))))) (ok_nd (ok_nd (ok_nd (ok_lf (ok_CaS su_X5_bits d_X5_silence_63 q1001 q1002 q6 q1003 ⟨by decide +kernel, by decide +kernel, by decide +kernel⟩ ⟨by decide, by decide⟩ rfl)) (ok_lf (ok_CpGt d_X5_silence_66 (by decide) rfl))) (ok_nd (ok_lf (ok_ICst d_X5_silence_69 (by decide) rfl)) (ok_lf (ok_Go d_X5_silence_70 (by decide))))) (ok_nd (ok_nd (ok_lf (ok_ICst d_X5_silence_73 (by decide) rfl)) (ok_lf (ok_ISt d_X5_silence_74 rfl))) (ok_nd (ok_lf (ok_ILd d_X5_silence_76 rfl)) (ok_lf (ok_IfEq d_X5_silence_78 (by decide) rfl)))))) (ok_nd (ok_nd (ok_nd (ok_nd (ok_lf (ok_ALdn d_X5_silence_81 rfl rfl)) (ok_lf (ok_ILd d_X5_silence_82 rfl))) (ok_nd (ok_lf (ok_ILdn d_X5_silence_84 rfl rfl)) (ok_lf (ok_ILdn d_X5_silence_85 rfl rfl)))) (ok_nd (ok_nd (ok_lf (ok_CaV su_X5_isWithout (by decide) rfl d_X5_silence_86 q1004 q1006 z83 q6 q1007 ⟨by decide +kernel, by decide +kernel, by decide +kernel⟩ ⟨by decide, by decide⟩ rfl)) (ok_lf (ok_IfEq d_X5_silence_89 (by decide) rfl))) (ok_nd (ok_lf (ok_ILd d_X5_silence_92 rfl)) (ok_lf (ok_Go d_X5_silence_94 (by decide)))))) (ok_nd (ok_nd (ok_nd (ok_lf (ok_ILdn d_X5_silence_97 rfl rfl)) (ok_lf (ok_IStn d_X5_silence_98 rfl rfl))) (ok_nd (ok_lf (ok_Inc d_X5_silence_99 (by decide) rfl)) (ok_lf (ok_Go d_X5_silence_102 (by decide))))) (ok_nd (ok_nd (ok_lf (ok_ALdn d_X5_silence_105 rfl rfl)) (ok_lf (ok_ILdn d_X5_silence_106 rfl rfl))) (ok_nd (ok_lf (ok_CaV su_X5_orNone (by decide) rfl d_X5_silence_107 q884 q886 z69 q6 q887 ⟨by decide +kernel, by decide +kernel, by decide +kernel⟩ ⟨by decide, by decide⟩ rfl)) (ok_lf (ok_IRet d_X5_silence_110)))))))
noncomputable def S_X5_silence : Sem := lockS (inl P_X5_silence 30000 6) 0
theorem su_X5_silence {l : Launch} {G : Gm} : SemU l G yX5_silence (wsOf yX5_silence cX5_silence 6 (some .int)) 10 S_X5_silence := sem_lock (sem_inl 30000 (by decide +kernel) rfl ok_X5_silence)
theorem d_X5_isSheet_0 : decode cX5_isSheet 0 = .ok (.iload_n 0, 1) := by decide +kernel
theorem d_X5_isSheet_1 : decode cX5_isSheet 1 = .ok (.iconst 0, 1) := by decide +kernel
theorem d_X5_isSheet_2 : decode cX5_isSheet 2 = .ok (.iconst 3, 1) := by decide +kernel
theorem d_X5_isSheet_3 : decode cX5_isSheet 3 = .ok (.invokestatic 70, 3) := by decide +kernel
theorem d_X5_isSheet_6 : decode cX5_isSheet 6 = .ok (.ireturn, 1) := by decide +kernel
noncomputable def P_X5_isSheet : Nat → Op := fun pc => nd 2 pc (nd 1 pc (lf 0 pc (oILd 0 1)) (lf 1 pc (oCst 0 2))) (nd 3 pc (lf 2 pc (oCst 3 3)) (nd 6 pc (lf 3 pc (oCaS 3 S_X5_within 6)) (lf 6 pc (oZRet))))
theorem ok_X5_isSheet {l : Launch} {G : Gm} : ∀ pc, OkU (TXm l G (rmD 2) 1 cX5_isSheet RX5) (RXm l G (rmD 2) 1 cX5_isSheet RX5 (some .boolean)) pc (P_X5_isSheet pc) := fun pc => ok_nd (ok_nd (ok_lf (ok_ILdn d_X5_isSheet_0 rfl rfl)) (ok_lf (ok_ICst d_X5_isSheet_1 (by decide) rfl))) (ok_nd (ok_lf (ok_ICst d_X5_isSheet_2 (by decide) rfl)) (ok_nd (ok_lf (ok_CaS su_X5_within d_X5_isSheet_3 q774 q775 q6 q776 ⟨by decide +kernel, by decide +kernel, by decide +kernel⟩ ⟨by decide, by decide⟩ rfl)) (ok_lf (ok_ZRet d_X5_isSheet_6))))
noncomputable def S_X5_isSheet : Sem := inl P_X5_isSheet 7 1
theorem su_X5_isSheet {l : Launch} {G : Gm} : SemU l G yX5_isSheet (wsOf yX5_isSheet cX5_isSheet 1 (some .boolean)) 2 S_X5_isSheet := sem_inl 7 (by decide +kernel) rfl ok_X5_isSheet
theorem d_X5_lacks_0 : decode cX5_lacks 0 = .ok (.iload_n 1, 1) := by decide +kernel
theorem d_X5_lacks_1 : decode cX5_lacks 1 = .ok (.invokestatic 199, 3) := by decide +kernel
theorem d_X5_lacks_4 : decode cX5_lacks 4 = .ok (.ifCond .ne 8, 3) := by decide +kernel
theorem d_X5_lacks_7 : decode cX5_lacks 7 = .ok (.ldc 60, 2) := by decide +kernel
theorem d_X5_lacks_9 : decode cX5_lacks 9 = .ok (.goto 27, 3) := by decide +kernel
theorem d_X5_lacks_12 : decode cX5_lacks 12 = .ok (.aload_n 0, 1) := by decide +kernel
theorem d_X5_lacks_13 : decode cX5_lacks 13 = .ok (.getfield 48, 3) := by decide +kernel
theorem d_X5_lacks_16 : decode cX5_lacks 16 = .ok (.iload_n 1, 1) := by decide +kernel
theorem d_X5_lacks_17 : decode cX5_lacks 17 = .ok (.iaload, 1) := by decide +kernel
theorem d_X5_lacks_18 : decode cX5_lacks 18 = .ok (.ifCond .ne 8, 3) := by decide +kernel
theorem d_X5_lacks_21 : decode cX5_lacks 21 = .ok (.ldc 202, 2) := by decide +kernel
theorem d_X5_lacks_23 : decode cX5_lacks 23 = .ok (.goto 13, 3) := by decide +kernel
theorem d_X5_lacks_26 : decode cX5_lacks 26 = .ok (.iload_n 2, 1) := by decide +kernel
theorem d_X5_lacks_27 : decode cX5_lacks 27 = .ok (.ifCond .eq 7, 3) := by decide +kernel
theorem d_X5_lacks_30 : decode cX5_lacks 30 = .ok (.iconst 0, 1) := by decide +kernel
theorem d_X5_lacks_31 : decode cX5_lacks 31 = .ok (.goto 5, 3) := by decide +kernel
theorem d_X5_lacks_34 : decode cX5_lacks 34 = .ok (.ldc 60, 2) := by decide +kernel
theorem d_X5_lacks_36 : decode cX5_lacks 36 = .ok (.ireturn, 1) := by decide +kernel
noncomputable def P_X5_lacks : Nat → Op := fun pc => nd 18 pc (nd 9 pc (nd 4 pc (nd 1 pc (lf 0 pc (oILd 1 1)) (lf 1 pc (oCaS 1 S_X5_isSheet 4))) (nd 7 pc (lf 4 pc (oIfEq 7 12)) (lf 7 pc (oCst (-1000001) 9)))) (nd 13 pc (nd 12 pc (lf 9 pc (oGo 36)) (lf 12 pc (oALd 0 13))) (nd 16 pc (lf 13 pc (oGetR 5 18 16)) (nd 17 pc (lf 16 pc (oILd 1 17)) (lf 17 pc (oIAL 18)))))) (nd 27 pc (nd 23 pc (nd 21 pc (lf 18 pc (oIfEq 21 26)) (lf 21 pc (oCst (-1000006) 23))) (nd 26 pc (lf 23 pc (oGo 36)) (lf 26 pc (oILd 2 27)))) (nd 31 pc (nd 30 pc (lf 27 pc (oIfEq 34 30)) (lf 30 pc (oCst 0 31))) (nd 34 pc (lf 31 pc (oGo 36)) (nd 36 pc (lf 34 pc (oCst (-1000001) 36)) (lf 36 pc (oIRet))))))
theorem ok_X5_lacks {l : Launch} {G : Gm} : ∀ pc, OkU (TXm l G (rmD 3) 3 cX5_lacks RX5) (RXm l G (rmD 3) 3 cX5_lacks RX5 (some .int)) pc (P_X5_lacks pc) := fun pc => ok_nd (ok_nd (ok_nd (ok_nd (ok_lf (ok_ILdn d_X5_lacks_0 rfl rfl)) (ok_lf (ok_CaS su_X5_isSheet d_X5_lacks_1 q1016 q1017 q6 q1018 ⟨by decide +kernel, by decide +kernel, by decide +kernel⟩ ⟨by decide, by decide⟩ rfl))) (ok_nd (ok_lf (ok_IfNe d_X5_lacks_4 (by decide) rfl)) (ok_lf (ok_Ldc d_X5_lacks_7 q781 rfl)))) (ok_nd (ok_nd (ok_lf (ok_Go d_X5_lacks_9 (by decide))) (ok_lf (ok_ALdn d_X5_lacks_12 rfl rfl))) (ok_nd (ok_lf (ok_GetR (by decide) (by decide) rfl d_X5_lacks_13 q721 rfl)) (ok_nd (ok_lf (ok_ILdn d_X5_lacks_16 rfl rfl)) (ok_lf (ok_IAL d_X5_lacks_17 rfl)))))) (ok_nd (ok_nd (ok_nd (ok_lf (ok_IfNe d_X5_lacks_18 (by decide) rfl)) (ok_lf (ok_Ldc d_X5_lacks_21 q1019 rfl))) (ok_nd (ok_lf (ok_Go d_X5_lacks_23 (by decide))) (ok_lf (ok_ILdn d_X5_lacks_26 rfl rfl)))) (ok_nd (ok_nd (ok_lf (ok_IfEq d_X5_lacks_27 (by decide) rfl)) (ok_lf (ok_ICst d_X5_lacks_30 (by decide) rfl))) (ok_nd (ok_lf (ok_Go d_X5_lacks_31 (by decide))) (ok_nd (ok_lf (ok_Ldc d_X5_lacks_34 q781 rfl)) (ok_lf (ok_IRet d_X5_lacks_36))))))
noncomputable def S_X5_lacks : Sem := inl P_X5_lacks 20 3
theorem su_X5_lacks {l : Launch} {G : Gm} : SemU l G yX5_lacks (wsOf yX5_lacks cX5_lacks 3 (some .int)) 3 S_X5_lacks := sem_inl 20 (by decide +kernel) rfl ok_X5_lacks
theorem d_X5_isWrongSo_0 : decode cX5_isWrongSo 0 = .ok (.aload_n 0, 1) := by decide +kernel
theorem d_X5_isWrongSo_1 : decode cX5_isWrongSo 1 = .ok (.getfield 9, 3) := by decide +kernel
theorem d_X5_isWrongSo_4 : decode cX5_isWrongSo 4 = .ok (.aload_n 0, 1) := by decide +kernel
theorem d_X5_isWrongSo_5 : decode cX5_isWrongSo 5 = .ok (.getfield 16, 3) := by decide +kernel
theorem d_X5_isWrongSo_8 : decode cX5_isWrongSo 8 = .ok (.invokestatic 61, 3) := by decide +kernel
theorem d_X5_isWrongSo_11 : decode cX5_isWrongSo 11 = .ok (.iconst 1, 1) := by decide +kernel
theorem d_X5_isWrongSo_12 : decode cX5_isWrongSo 12 = .ok (.istore_n 3, 1) := by decide +kernel
theorem d_X5_isWrongSo_13 : decode cX5_isWrongSo 13 = .ok (.iconst 0, 1) := by decide +kernel
theorem d_X5_isWrongSo_14 : decode cX5_isWrongSo 14 = .ok (.istore 4, 2) := by decide +kernel
theorem d_X5_isWrongSo_16 : decode cX5_isWrongSo 16 = .ok (.iload 4, 2) := by decide +kernel
theorem d_X5_isWrongSo_18 : decode cX5_isWrongSo 18 = .ok (.aload_n 0, 1) := by decide +kernel
theorem d_X5_isWrongSo_19 : decode cX5_isWrongSo 19 = .ok (.getfield 51, 3) := by decide +kernel
theorem d_X5_isWrongSo_22 : decode cX5_isWrongSo 22 = .ok (.iload_n 1, 1) := by decide +kernel
theorem d_X5_isWrongSo_23 : decode cX5_isWrongSo 23 = .ok (.iaload, 1) := by decide +kernel
theorem d_X5_isWrongSo_24 : decode cX5_isWrongSo 24 = .ok (.if_icmp .ge 54, 3) := by decide +kernel
theorem d_X5_isWrongSo_27 : decode cX5_isWrongSo 27 = .ok (.iload_n 3, 1) := by decide +kernel
theorem d_X5_isWrongSo_28 : decode cX5_isWrongSo 28 = .ok (.ifCond .eq 50, 3) := by decide +kernel
theorem d_X5_isWrongSo_31 : decode cX5_isWrongSo 31 = .ok (.aload_n 0, 1) := by decide +kernel
theorem d_X5_isWrongSo_32 : decode cX5_isWrongSo 32 = .ok (.getfield 54, 3) := by decide +kernel
theorem d_X5_isWrongSo_35 : decode cX5_isWrongSo 35 = .ok (.bipush 40, 2) := by decide +kernel
theorem d_X5_isWrongSo_37 : decode cX5_isWrongSo 37 = .ok (.iload_n 1, 1) := by decide +kernel
theorem d_X5_isWrongSo_38 : decode cX5_isWrongSo 38 = .ok (.imul, 1) := by decide +kernel
theorem d_X5_isWrongSo_39 : decode cX5_isWrongSo 39 = .ok (.iload 4, 2) := by decide +kernel
theorem d_X5_isWrongSo_41 : decode cX5_isWrongSo 41 = .ok (.iadd, 1) := by decide +kernel
theorem d_X5_isWrongSo_42 : decode cX5_isWrongSo 42 = .ok (.iaload, 1) := by decide +kernel
theorem d_X5_isWrongSo_43 : decode cX5_isWrongSo 43 = .ok (.istore 5, 2) := by decide +kernel
theorem d_X5_isWrongSo_45 : decode cX5_isWrongSo 45 = .ok (.iload 5, 2) := by decide +kernel
theorem d_X5_isWrongSo_47 : decode cX5_isWrongSo 47 = .ok (.iconst (-1), 1) := by decide +kernel
theorem d_X5_isWrongSo_48 : decode cX5_isWrongSo 48 = .ok (.if_icmp .eq 14, 3) := by decide +kernel
theorem d_X5_isWrongSo_51 : decode cX5_isWrongSo 51 = .ok (.iload 5, 2) := by decide +kernel
theorem d_X5_isWrongSo_53 : decode cX5_isWrongSo 53 = .ok (.aload_n 0, 1) := by decide +kernel
theorem d_X5_isWrongSo_54 : decode cX5_isWrongSo 54 = .ok (.iload_n 2, 1) := by decide +kernel
theorem d_X5_isWrongSo_55 : decode cX5_isWrongSo 55 = .ok (.iconst 3, 1) := by decide +kernel
theorem d_X5_isWrongSo_56 : decode cX5_isWrongSo 56 = .ok (.invokevirtual 95, 3) := by decide +kernel
theorem d_X5_isWrongSo_59 : decode cX5_isWrongSo 59 = .ok (.if_icmp .ne 7, 3) := by decide +kernel
theorem d_X5_isWrongSo_62 : decode cX5_isWrongSo 62 = .ok (.iconst 1, 1) := by decide +kernel
theorem d_X5_isWrongSo_63 : decode cX5_isWrongSo 63 = .ok (.goto 4, 3) := by decide +kernel
theorem d_X5_isWrongSo_66 : decode cX5_isWrongSo 66 = .ok (.iconst 0, 1) := by decide +kernel
theorem d_X5_isWrongSo_67 : decode cX5_isWrongSo 67 = .ok (.istore_n 3, 1) := by decide +kernel
theorem d_X5_isWrongSo_68 : decode cX5_isWrongSo 68 = .ok (.aload_n 0, 1) := by decide +kernel
theorem d_X5_isWrongSo_69 : decode cX5_isWrongSo 69 = .ok (.invokevirtual 156, 3) := by decide +kernel
theorem d_X5_isWrongSo_72 : decode cX5_isWrongSo 72 = .ok (.iinc 4 1, 3) := by decide +kernel
theorem d_X5_isWrongSo_75 : decode cX5_isWrongSo 75 = .ok (.goto (-59), 3) := by decide +kernel
theorem d_X5_isWrongSo_78 : decode cX5_isWrongSo 78 = .ok (.aload_n 0, 1) := by decide +kernel
theorem d_X5_isWrongSo_79 : decode cX5_isWrongSo 79 = .ok (.getfield 16, 3) := by decide +kernel
theorem d_X5_isWrongSo_82 : decode cX5_isWrongSo 82 = .ok (.aload_n 0, 1) := by decide +kernel
theorem d_X5_isWrongSo_83 : decode cX5_isWrongSo 83 = .ok (.getfield 9, 3) := by decide +kernel
theorem d_X5_isWrongSo_86 : decode cX5_isWrongSo 86 = .ok (.invokestatic 61, 3) := by decide +kernel
theorem d_X5_isWrongSo_89 : decode cX5_isWrongSo 89 = .ok (.iload_n 3, 1) := by decide +kernel
theorem d_X5_isWrongSo_90 : decode cX5_isWrongSo 90 = .ok (.ireturn, 1) := by decide +kernel
noncomputable def P_X5_isWrongSo : Nat → Op := fun pc => nd 43 pc (nd 22 pc (nd 12 pc (nd 5 pc (nd 1 pc (lf 0 pc (oALd 0 1)) (nd 4 pc (lf 1 pc (oGetR 5 0 4)) (lf 4 pc (oALd 0 5)))) (nd 8 pc (lf 5 pc (oGetR 5 2 8)) (nd 11 pc (lf 8 pc (oCaS 2 S_X5_copyRow 11)) (lf 11 pc (oCst 1 12))))) (nd 16 pc (nd 13 pc (lf 12 pc (oISt 3 13)) (nd 14 pc (lf 13 pc (oCst 0 14)) (lf 14 pc (oISt 4 16)))) (nd 18 pc (lf 16 pc (lockO (oILd 4 18) 0)) (nd 19 pc (lf 18 pc (oALd 0 19)) (lf 19 pc (oGetR 5 19 22)))))) (nd 32 pc (nd 27 pc (nd 23 pc (lf 22 pc (oILd 1 23)) (nd 24 pc (lf 23 pc (oIAL 24)) (lf 24 pc (oCpLt 27 78)))) (nd 28 pc (lf 27 pc (oILd 3 28)) (nd 31 pc (lf 28 pc (oIfEq 78 31)) (lf 31 pc (oALd 0 32))))) (nd 38 pc (nd 35 pc (lf 32 pc (oGetR 5 20 35)) (nd 37 pc (lf 35 pc (oCst 40 37)) (lf 37 pc (oILd 1 38)))) (nd 41 pc (nd 39 pc (lf 38 pc (oBin (fun x y => x * y) 39)) (lf 39 pc (oILd 4 41))) (nd 42 pc (lf 41 pc (oBin (fun x y => x + y) 42)) (lf 42 pc (oIAL 43))))))) (nd 66 pc (nd 54 pc (nd 48 pc (nd 45 pc (lf 43 pc (oISt 5 45)) (nd 47 pc (lf 45 pc (oILd 5 47)) (lf 47 pc (oCst (-1) 48)))) (nd 51 pc (lf 48 pc (oCpEq 62 51)) (nd 53 pc (lf 51 pc (oILd 5 53)) (lf 53 pc (oALd 0 54))))) (nd 59 pc (nd 55 pc (lf 54 pc (oILd 2 55)) (nd 56 pc (lf 55 pc (oCst 3 56)) (lf 56 pc (oCaV 3 5 S_X5_disputantIs 59)))) (nd 62 pc (lf 59 pc (oCpEq 62 66)) (nd 63 pc (lf 62 pc (oCst 1 63)) (lf 63 pc (oGo 67)))))) (nd 78 pc (nd 69 pc (nd 67 pc (lf 66 pc (oCst 0 67)) (nd 68 pc (lf 67 pc (oISt 3 68)) (lf 68 pc (oALd 0 69)))) (nd 72 pc (lf 69 pc (oCaV 1 5 S_X5_drop 72)) (nd 75 pc (lf 72 pc (oInc 4 1 75)) (lf 75 pc (oGo 16))))) (nd 83 pc (nd 79 pc (lf 78 pc (oALd 0 79)) (nd 82 pc (lf 79 pc (oGetR 5 2 82)) (lf 82 pc (oALd 0 83)))) (nd 89 pc (nd 86 pc (lf 83 pc (oGetR 5 0 86)) (lf 86 pc (oCaS 2 S_X5_copyRow 89))) (nd 90 pc (lf 89 pc (oILd 3 90)) (lf 90 pc (oZRet)))))))
theorem ok_X5_isWrongSo {l : Launch} {G : Gm} : ∀ pc, OkU (TXm l G (rmD 8) 6 cX5_isWrongSo RX5) (RXm l G (rmD 8) 6 cX5_isWrongSo RX5 (some .boolean)) pc (P_X5_isWrongSo pc) := fun pc => ok_nd (ok_nd (ok_nd (ok_nd (ok_nd (ok_lf (ok_ALdn d_X5_isWrongSo_0 rfl rfl)) (ok_nd (ok_lf (ok_GetR (by decide) (by decide) rfl d_X5_isWrongSo_1 q703 rfl)) (ok_lf (ok_ALdn d_X5_isWrongSo_4 rfl rfl)))) (ok_nd (ok_lf (ok_GetR (by decide) (by decide) rfl d_X5_isWrongSo_5 q705 rfl)) (ok_nd (ok_lf (ok_CaS su_X5_copyRow d_X5_isWrongSo_8 q939 q940 q6 q941 ⟨by decide +kernel, by decide +kernel, by decide +kernel⟩ ⟨by decide, by decide⟩ rfl)) (ok_lf (ok_ICst d_X5_isWrongSo_11 (by decide) rfl))))) (ok_nd (ok_nd (ok_lf (ok_IStn d_X5_isWrongSo_12 rfl rfl)) (ok_nd (ok_lf (ok_ICst d_X5_isWrongSo_13 (by decide) rfl)) (ok_lf (ok_ISt d_X5_isWrongSo_14 rfl)))) (ok_nd (ok_lf (ok_lk (ok_ILd d_X5_isWrongSo_16 rfl))) (ok_nd (ok_lf (ok_ALdn d_X5_isWrongSo_18 rfl rfl)) (ok_lf (ok_GetR (by decide) (by decide) rfl d_X5_isWrongSo_19 q722 rfl)))))) (ok_nd (ok_nd (ok_nd (ok_lf (ok_ILdn d_X5_isWrongSo_22 rfl rfl)) (ok_nd (ok_lf (ok_IAL d_X5_isWrongSo_23 rfl)) (ok_lf (ok_CpGe d_X5_isWrongSo_24 (by decide) rfl)))) (ok_nd (ok_lf (ok_ILdn d_X5_isWrongSo_27 rfl rfl)) (ok_nd (ok_lf (ok_IfEq d_X5_isWrongSo_28 (by decide) rfl)) (ok_lf (ok_ALdn d_X5_isWrongSo_31 rfl rfl))))) (ok_nd (ok_nd (ok_lf (ok_GetR (by decide) (by decide) rfl d_X5_isWrongSo_32 q723 rfl)) (ok_nd (ok_lf (ok_BCst d_X5_isWrongSo_35 (by decide) rfl)) (ok_lf (ok_ILdn d_X5_isWrongSo_37 rfl rfl)))) (ok_nd (ok_nd (ok_lf (ok_imul d_X5_isWrongSo_38 rfl)) (ok_lf (ok_ILd d_X5_isWrongSo_39 rfl))) (ok_nd (ok_lf (ok_iadd d_X5_isWrongSo_41 rfl)) (ok_lf (ok_IAL d_X5_isWrongSo_42 rfl))))))) (ok_nd (ok_nd (ok_nd (ok_nd (ok_lf (ok_ISt d_X5_isWrongSo_43 rfl)) (ok_nd (ok_lf (ok_ILd d_X5_isWrongSo_45 rfl)) (ok_lf (ok_ICst d_X5_isWrongSo_47 (by decide) rfl)))) (ok_nd (ok_lf (ok_CpEq d_X5_isWrongSo_48 (by decide) rfl)) (ok_nd (ok_lf (ok_ILd d_X5_isWrongSo_51 rfl)) (ok_lf (ok_ALdn d_X5_isWrongSo_53 rfl rfl))))) (ok_nd (ok_nd (ok_lf (ok_ILdn d_X5_isWrongSo_54 rfl rfl)) (ok_nd (ok_lf (ok_ICst d_X5_isWrongSo_55 (by decide) rfl)) (ok_lf (ok_CaV su_X5_disputantIs (by decide) rfl d_X5_isWrongSo_56 q835 q837 z61 q6 q838 ⟨by decide +kernel, by decide +kernel, by decide +kernel⟩ ⟨by decide, by decide⟩ rfl)))) (ok_nd (ok_lf (ok_CpNe d_X5_isWrongSo_59 (by decide) rfl)) (ok_nd (ok_lf (ok_ICst d_X5_isWrongSo_62 (by decide) rfl)) (ok_lf (ok_Go d_X5_isWrongSo_63 (by decide))))))) (ok_nd (ok_nd (ok_nd (ok_lf (ok_ICst d_X5_isWrongSo_66 (by decide) rfl)) (ok_nd (ok_lf (ok_IStn d_X5_isWrongSo_67 rfl rfl)) (ok_lf (ok_ALdn d_X5_isWrongSo_68 rfl rfl)))) (ok_nd (ok_lf (ok_CaV su_X5_drop (by decide) rfl d_X5_isWrongSo_69 q899 q901 z71 q6 q902 ⟨by decide +kernel, by decide +kernel, by decide +kernel⟩ ⟨by decide, by decide⟩ rfl)) (ok_nd (ok_lf (ok_Inc d_X5_isWrongSo_72 (by decide) rfl)) (ok_lf (ok_Go d_X5_isWrongSo_75 (by decide)))))) (ok_nd (ok_nd (ok_lf (ok_ALdn d_X5_isWrongSo_78 rfl rfl)) (ok_nd (ok_lf (ok_GetR (by decide) (by decide) rfl d_X5_isWrongSo_79 q705 rfl)) (ok_lf (ok_ALdn d_X5_isWrongSo_82 rfl rfl)))) (ok_nd (ok_nd (ok_lf (ok_GetR (by decide) (by decide) rfl d_X5_isWrongSo_83 q703 rfl)) (ok_lf (ok_CaS su_X5_copyRow d_X5_isWrongSo_86 q939 q940 q6 q941 ⟨by decide +kernel, by decide +kernel, by decide +kernel⟩ ⟨by decide, by decide⟩ rfl))) (ok_nd (ok_lf (ok_ILdn d_X5_isWrongSo_89 rfl rfl)) (ok_lf (ok_ZRet d_X5_isWrongSo_90)))))))
noncomputable def S_X5_isWrongSo : Sem := lockS (inl P_X5_isWrongSo 30000 6) 0
theorem su_X5_isWrongSo {l : Launch} {G : Gm} : SemU l G yX5_isWrongSo (wsOf yX5_isWrongSo cX5_isWrongSo 6 (some .boolean)) 8 S_X5_isWrongSo := sem_lock (sem_inl 30000 (by decide +kernel) rfl ok_X5_isWrongSo)
theorem d_X5_findHeights_0 : decode cX5_findHeights 0 = .ok (.aload_n 0, 1) := by decide +kernel
theorem d_X5_findHeights_1 : decode cX5_findHeights 1 = .ok (.getfield 9, 3) := by decide +kernel
theorem d_X5_findHeights_4 : decode cX5_findHeights 4 = .ok (.iconst 3, 1) := by decide +kernel
theorem d_X5_findHeights_5 : decode cX5_findHeights 5 = .ok (.iaload, 1) := by decide +kernel
theorem d_X5_findHeights_6 : decode cX5_findHeights 6 = .ok (.istore_n 3, 1) := by decide +kernel
theorem d_X5_findHeights_7 : decode cX5_findHeights 7 = .ok (.aload_n 0, 1) := by decide +kernel
theorem d_X5_findHeights_8 : decode cX5_findHeights 8 = .ok (.iconst 0, 1) := by decide +kernel
theorem d_X5_findHeights_9 : decode cX5_findHeights 9 = .ok (.putfield 203, 3) := by decide +kernel
theorem d_X5_findHeights_12 : decode cX5_findHeights 12 = .ok (.aload_n 0, 1) := by decide +kernel
theorem d_X5_findHeights_13 : decode cX5_findHeights 13 = .ok (.iconst (-1), 1) := by decide +kernel
theorem d_X5_findHeights_14 : decode cX5_findHeights 14 = .ok (.putfield 207, 3) := by decide +kernel
theorem d_X5_findHeights_17 : decode cX5_findHeights 17 = .ok (.bipush 60, 2) := by decide +kernel
theorem d_X5_findHeights_19 : decode cX5_findHeights 19 = .ok (.istore 4, 2) := by decide +kernel
theorem d_X5_findHeights_21 : decode cX5_findHeights 21 = .ok (.iload 4, 2) := by decide +kernel
theorem d_X5_findHeights_23 : decode cX5_findHeights 23 = .ok (.ifCond .le 42, 3) := by decide +kernel
theorem d_X5_findHeights_26 : decode cX5_findHeights 26 = .ok (.aload_n 0, 1) := by decide +kernel
theorem d_X5_findHeights_27 : decode cX5_findHeights 27 = .ok (.getfield 9, 3) := by decide +kernel
theorem d_X5_findHeights_30 : decode cX5_findHeights 30 = .ok (.iconst 3, 1) := by decide +kernel
theorem d_X5_findHeights_31 : decode cX5_findHeights 31 = .ok (.iload 4, 2) := by decide +kernel
theorem d_X5_findHeights_33 : decode cX5_findHeights 33 = .ok (.iastore, 1) := by decide +kernel
theorem d_X5_findHeights_34 : decode cX5_findHeights 34 = .ok (.aload_n 0, 1) := by decide +kernel
theorem d_X5_findHeights_35 : decode cX5_findHeights 35 = .ok (.iload_n 1, 1) := by decide +kernel
theorem d_X5_findHeights_36 : decode cX5_findHeights 36 = .ok (.iload_n 2, 1) := by decide +kernel
theorem d_X5_findHeights_37 : decode cX5_findHeights 37 = .ok (.invokevirtual 210, 3) := by decide +kernel
theorem d_X5_findHeights_40 : decode cX5_findHeights 40 = .ok (.ifCond .eq 19, 3) := by decide +kernel
theorem d_X5_findHeights_43 : decode cX5_findHeights 43 = .ok (.aload_n 0, 1) := by decide +kernel
theorem d_X5_findHeights_44 : decode cX5_findHeights 44 = .ok (.dup, 1) := by decide +kernel
theorem d_X5_findHeights_45 : decode cX5_findHeights 45 = .ok (.getfield 203, 3) := by decide +kernel
theorem d_X5_findHeights_48 : decode cX5_findHeights 48 = .ok (.iconst 1, 1) := by decide +kernel
theorem d_X5_findHeights_49 : decode cX5_findHeights 49 = .ok (.iadd, 1) := by decide +kernel
theorem d_X5_findHeights_50 : decode cX5_findHeights 50 = .ok (.putfield 203, 3) := by decide +kernel
theorem d_X5_findHeights_53 : decode cX5_findHeights 53 = .ok (.aload_n 0, 1) := by decide +kernel
theorem d_X5_findHeights_54 : decode cX5_findHeights 54 = .ok (.iload 4, 2) := by decide +kernel
theorem d_X5_findHeights_56 : decode cX5_findHeights 56 = .ok (.putfield 207, 3) := by decide +kernel
theorem d_X5_findHeights_59 : decode cX5_findHeights 59 = .ok (.iinc 4 (-1), 3) := by decide +kernel
theorem d_X5_findHeights_62 : decode cX5_findHeights 62 = .ok (.goto (-41), 3) := by decide +kernel
theorem d_X5_findHeights_65 : decode cX5_findHeights 65 = .ok (.aload_n 0, 1) := by decide +kernel
theorem d_X5_findHeights_66 : decode cX5_findHeights 66 = .ok (.getfield 9, 3) := by decide +kernel
theorem d_X5_findHeights_69 : decode cX5_findHeights 69 = .ok (.iconst 3, 1) := by decide +kernel
theorem d_X5_findHeights_70 : decode cX5_findHeights 70 = .ok (.iload_n 3, 1) := by decide +kernel
theorem d_X5_findHeights_71 : decode cX5_findHeights 71 = .ok (.iastore, 1) := by decide +kernel
theorem d_X5_findHeights_72 : decode cX5_findHeights 72 = .ok (.return_, 1) := by decide +kernel
noncomputable def P_X5_findHeights : Nat → Op := fun pc => nd 35 pc (nd 14 pc (nd 7 pc (nd 4 pc (nd 1 pc (lf 0 pc (oALd 0 1)) (lf 1 pc (oGetR 5 0 4))) (nd 5 pc (lf 4 pc (oCst 3 5)) (nd 6 pc (lf 5 pc (oIAL 6)) (lf 6 pc (oISt 3 7))))) (nd 9 pc (nd 8 pc (lf 7 pc (oALd 0 8)) (lf 8 pc (oCst 0 9))) (nd 12 pc (lf 9 pc (oPutI 5 5 12)) (nd 13 pc (lf 12 pc (oALd 0 13)) (lf 13 pc (oCst (-1) 14)))))) (nd 26 pc (nd 19 pc (nd 17 pc (lf 14 pc (oPutI 5 6 17)) (lf 17 pc (oCst 60 19))) (nd 21 pc (lf 19 pc (oISt 4 21)) (nd 23 pc (lf 21 pc (lockO (oILd 4 23) 0)) (lf 23 pc (oIfGt 26 65))))) (nd 31 pc (nd 27 pc (lf 26 pc (oALd 0 27)) (nd 30 pc (lf 27 pc (oGetR 5 0 30)) (lf 30 pc (oCst 3 31)))) (nd 33 pc (lf 31 pc (oILd 4 33)) (nd 34 pc (lf 33 pc (oIAS 34)) (lf 34 pc (oALd 0 35))))))) (nd 53 pc (nd 44 pc (nd 37 pc (nd 36 pc (lf 35 pc (oILd 1 36)) (lf 36 pc (oILd 2 37))) (nd 40 pc (lf 37 pc (oCaV 3 5 S_X5_isWrongSo 40)) (nd 43 pc (lf 40 pc (oIfEq 59 43)) (lf 43 pc (oALd 0 44))))) (nd 48 pc (nd 45 pc (lf 44 pc (oDup 45)) (lf 45 pc (oGetI 5 5 48))) (nd 49 pc (lf 48 pc (oCst 1 49)) (nd 50 pc (lf 49 pc (oBin (fun x y => x + y) 50)) (lf 50 pc (oPutI 5 5 53)))))) (nd 65 pc (nd 56 pc (nd 54 pc (lf 53 pc (oALd 0 54)) (lf 54 pc (oILd 4 56))) (nd 59 pc (lf 56 pc (oPutI 5 6 59)) (nd 62 pc (lf 59 pc (oInc 4 (-1) 62)) (lf 62 pc (oGo 21))))) (nd 70 pc (nd 66 pc (lf 65 pc (oALd 0 66)) (nd 69 pc (lf 66 pc (oGetR 5 0 69)) (lf 69 pc (oCst 3 70)))) (nd 71 pc (lf 70 pc (oILd 3 71)) (nd 72 pc (lf 71 pc (oIAS 72)) (lf 72 pc (oVRet)))))))
theorem ok_X5_findHeights {l : Launch} {G : Gm} : ∀ pc, OkU (TXm l G (rmD 9) 5 cX5_findHeights RX5) (RXm l G (rmD 9) 5 cX5_findHeights RX5 none) pc (P_X5_findHeights pc) := fun pc => ok_nd (ok_nd (ok_nd (ok_nd (ok_nd (ok_lf (ok_ALdn d_X5_findHeights_0 rfl rfl)) (ok_lf (ok_GetR (by decide) (by decide) rfl d_X5_findHeights_1 q703 rfl))) (ok_nd (ok_lf (ok_ICst d_X5_findHeights_4 (by decide) rfl)) (ok_nd (ok_lf (ok_IAL d_X5_findHeights_5 rfl)) (ok_lf (ok_IStn d_X5_findHeights_6 rfl rfl))))) (ok_nd (ok_nd (ok_lf (ok_ALdn d_X5_findHeights_7 rfl rfl)) (ok_lf (ok_ICst d_X5_findHeights_8 (by decide) rfl))) (ok_nd (ok_lf (ok_PutI (by decide) (by decide) rfl rfl (by decide +kernel) d_X5_findHeights_9 q708 rfl)) (ok_nd (ok_lf (ok_ALdn d_X5_findHeights_12 rfl rfl)) (ok_lf (ok_ICst d_X5_findHeights_13 (by decide) rfl)))))) (ok_nd (ok_nd (ok_nd (ok_lf (ok_PutI (by decide) (by decide) rfl rfl (by decide +kernel) d_X5_findHeights_14 q709 rfl)) (ok_lf (ok_BCst d_X5_findHeights_17 (by decide) rfl))) (ok_nd (ok_lf (ok_ISt d_X5_findHeights_19 rfl)) (ok_nd (ok_lf (ok_lk (ok_ILd d_X5_findHeights_21 rfl))) (ok_lf (ok_IfLe d_X5_findHeights_23 (by decide) rfl))))) (ok_nd (ok_nd (ok_lf (ok_ALdn d_X5_findHeights_26 rfl rfl)) (ok_nd (ok_lf (ok_GetR (by decide) (by decide) rfl d_X5_findHeights_27 q703 rfl)) (ok_lf (ok_ICst d_X5_findHeights_30 (by decide) rfl)))) (ok_nd (ok_lf (ok_ILd d_X5_findHeights_31 rfl)) (ok_nd (ok_lf (ok_IAS d_X5_findHeights_33 rfl)) (ok_lf (ok_ALdn d_X5_findHeights_34 rfl rfl))))))) (ok_nd (ok_nd (ok_nd (ok_nd (ok_lf (ok_ILdn d_X5_findHeights_35 rfl rfl)) (ok_lf (ok_ILdn d_X5_findHeights_36 rfl rfl))) (ok_nd (ok_lf (ok_CaV su_X5_isWrongSo (by decide) rfl d_X5_findHeights_37 q1024 q1026 z86 q6 q1027 ⟨by decide +kernel, by decide +kernel, by decide +kernel⟩ ⟨by decide, by decide⟩ rfl)) (ok_nd (ok_lf (ok_IfEq d_X5_findHeights_40 (by decide) rfl)) (ok_lf (ok_ALdn d_X5_findHeights_43 rfl rfl))))) (ok_nd (ok_nd (ok_lf (ok_Dup d_X5_findHeights_44 rfl)) (ok_lf (ok_GetI (by decide) (by decide) rfl d_X5_findHeights_45 q708 rfl))) (ok_nd (ok_lf (ok_ICst d_X5_findHeights_48 (by decide) rfl)) (ok_nd (ok_lf (ok_iadd d_X5_findHeights_49 rfl)) (ok_lf (ok_PutI (by decide) (by decide) rfl rfl (by decide +kernel) d_X5_findHeights_50 q708 rfl)))))) (ok_nd (ok_nd (ok_nd (ok_lf (ok_ALdn d_X5_findHeights_53 rfl rfl)) (ok_lf (ok_ILd d_X5_findHeights_54 rfl))) (ok_nd (ok_lf (ok_PutI (by decide) (by decide) rfl rfl (by decide +kernel) d_X5_findHeights_56 q709 rfl)) (ok_nd (ok_lf (ok_Inc d_X5_findHeights_59 (by decide) rfl)) (ok_lf (ok_Go d_X5_findHeights_62 (by decide)))))) (ok_nd (ok_nd (ok_lf (ok_ALdn d_X5_findHeights_65 rfl rfl)) (ok_nd (ok_lf (ok_GetR (by decide) (by decide) rfl d_X5_findHeights_66 q703 rfl)) (ok_lf (ok_ICst d_X5_findHeights_69 (by decide) rfl)))) (ok_nd (ok_lf (ok_ILdn d_X5_findHeights_70 rfl rfl)) (ok_nd (ok_lf (ok_IAS d_X5_findHeights_71 rfl)) (ok_lf (ok_VRet d_X5_findHeights_72)))))))
noncomputable def S_X5_findHeights : Sem := lockS (inl P_X5_findHeights 30000 5) 0
theorem su_X5_findHeights {l : Launch} {G : Gm} : SemU l G yX5_findHeights (wsOf yX5_findHeights cX5_findHeights 5 none) 9 S_X5_findHeights := sem_lock (sem_inl 30000 (by decide +kernel) rfl ok_X5_findHeights)
theorem d_X5_fits_0 : decode cX5_fits 0 = .ok (.aload_n 0, 1) := by decide +kernel
theorem d_X5_fits_1 : decode cX5_fits 1 = .ok (.iload_n 1, 1) := by decide +kernel
theorem d_X5_fits_2 : decode cX5_fits 2 = .ok (.aload_n 0, 1) := by decide +kernel
theorem d_X5_fits_3 : decode cX5_fits 3 = .ok (.iload_n 2, 1) := by decide +kernel
theorem d_X5_fits_4 : decode cX5_fits 4 = .ok (.invokevirtual 121, 3) := by decide +kernel
theorem d_X5_fits_7 : decode cX5_fits 7 = .ok (.invokevirtual 213, 3) := by decide +kernel
theorem d_X5_fits_10 : decode cX5_fits 10 = .ok (.istore_n 3, 1) := by decide +kernel
theorem d_X5_fits_11 : decode cX5_fits 11 = .ok (.iload_n 3, 1) := by decide +kernel
theorem d_X5_fits_12 : decode cX5_fits 12 = .ok (.ifCond .eq 9, 3) := by decide +kernel
theorem d_X5_fits_15 : decode cX5_fits 15 = .ok (.aload_n 0, 1) := by decide +kernel
theorem d_X5_fits_16 : decode cX5_fits 16 = .ok (.iload_n 3, 1) := by decide +kernel
theorem d_X5_fits_17 : decode cX5_fits 17 = .ok (.invokevirtual 66, 3) := by decide +kernel
theorem d_X5_fits_20 : decode cX5_fits 20 = .ok (.ireturn, 1) := by decide +kernel
theorem d_X5_fits_21 : decode cX5_fits 21 = .ok (.aload_n 0, 1) := by decide +kernel
theorem d_X5_fits_22 : decode cX5_fits 22 = .ok (.iload_n 1, 1) := by decide +kernel
theorem d_X5_fits_23 : decode cX5_fits 23 = .ok (.iload_n 2, 1) := by decide +kernel
theorem d_X5_fits_24 : decode cX5_fits 24 = .ok (.invokevirtual 217, 3) := by decide +kernel
theorem d_X5_fits_27 : decode cX5_fits 27 = .ok (.aload_n 0, 1) := by decide +kernel
theorem d_X5_fits_28 : decode cX5_fits 28 = .ok (.getfield 203, 3) := by decide +kernel
theorem d_X5_fits_31 : decode cX5_fits 31 = .ok (.ireturn, 1) := by decide +kernel
noncomputable def P_X5_fits : Nat → Op := fun pc => nd 16 pc (nd 7 pc (nd 2 pc (nd 1 pc (lf 0 pc (oALd 0 1)) (lf 1 pc (oILd 1 2))) (nd 3 pc (lf 2 pc (oALd 0 3)) (nd 4 pc (lf 3 pc (oILd 2 4)) (lf 4 pc (oCaV 2 5 S_X5_isDisputant 7))))) (nd 11 pc (nd 10 pc (lf 7 pc (oCaV 3 5 S_X5_lacks 10)) (lf 10 pc (oISt 3 11))) (nd 12 pc (lf 11 pc (oILd 3 12)) (nd 15 pc (lf 12 pc (oIfEq 21 15)) (lf 15 pc (oALd 0 16)))))) (nd 23 pc (nd 20 pc (nd 17 pc (lf 16 pc (oILd 3 17)) (lf 17 pc (oCaV 2 5 S_X5_finding 20))) (nd 21 pc (lf 20 pc (oIRet)) (nd 22 pc (lf 21 pc (oALd 0 22)) (lf 22 pc (oILd 1 23))))) (nd 27 pc (nd 24 pc (lf 23 pc (oILd 2 24)) (lf 24 pc (oCaV 3 5 S_X5_findHeights 27))) (nd 28 pc (lf 27 pc (oALd 0 28)) (nd 31 pc (lf 28 pc (oGetI 5 5 31)) (lf 31 pc (oIRet))))))
theorem ok_X5_fits {l : Launch} {G : Gm} : ∀ pc, OkU (TXm l G (rmD 10) 4 cX5_fits RX5) (RXm l G (rmD 10) 4 cX5_fits RX5 (some .int)) pc (P_X5_fits pc) := fun pc => ok_nd (ok_nd (ok_nd (ok_nd (ok_lf (ok_ALdn d_X5_fits_0 rfl rfl)) (ok_lf (ok_ILdn d_X5_fits_1 rfl rfl))) (ok_nd (ok_lf (ok_ALdn d_X5_fits_2 rfl rfl)) (ok_nd (ok_lf (ok_ILdn d_X5_fits_3 rfl rfl)) (ok_lf (ok_CaV su_X5_isDisputant (by decide) rfl d_X5_fits_4 q823 q825 z58 q6 q826 ⟨by decide +kernel, by decide +kernel, by decide +kernel⟩ ⟨by decide, by decide⟩ rfl))))) (ok_nd (ok_nd (ok_lf (ok_CaV su_X5_lacks (by decide) rfl d_X5_fits_7 q1012 q1014 z84 q6 q1015 ⟨by decide +kernel, by decide +kernel, by decide +kernel⟩ ⟨by decide, by decide⟩ rfl)) (ok_lf (ok_IStn d_X5_fits_10 rfl rfl))) (ok_nd (ok_lf (ok_ILdn d_X5_fits_11 rfl rfl)) (ok_nd (ok_lf (ok_IfEq d_X5_fits_12 (by decide) rfl)) (ok_lf (ok_ALdn d_X5_fits_15 rfl rfl)))))) (ok_nd (ok_nd (ok_nd (ok_lf (ok_ILdn d_X5_fits_16 rfl rfl)) (ok_lf (ok_CaV su_X5_finding (by decide) rfl d_X5_fits_17 q782 q784 z56 q6 q785 ⟨by decide +kernel, by decide +kernel, by decide +kernel⟩ ⟨by decide, by decide⟩ rfl))) (ok_nd (ok_lf (ok_IRet d_X5_fits_20)) (ok_nd (ok_lf (ok_ALdn d_X5_fits_21 rfl rfl)) (ok_lf (ok_ILdn d_X5_fits_22 rfl rfl))))) (ok_nd (ok_nd (ok_lf (ok_ILdn d_X5_fits_23 rfl rfl)) (ok_lf (ok_CaV su_X5_findHeights (by decide) rfl d_X5_fits_24 q1020 q1022 z85 q6 q1023 ⟨by decide +kernel, by decide +kernel, by decide +kernel⟩ ⟨by decide, by decide⟩ rfl))) (ok_nd (ok_lf (ok_ALdn d_X5_fits_27 rfl rfl)) (ok_nd (ok_lf (ok_GetI (by decide) (by decide) rfl d_X5_fits_28 q708 rfl)) (ok_lf (ok_IRet d_X5_fits_31))))))
noncomputable def S_X5_fits : Sem := lockS (inl P_X5_fits 22 4) 0
theorem su_X5_fits {l : Launch} {G : Gm} : SemU l G yX5_fits (wsOf yX5_fits cX5_fits 4 (some .int)) 10 S_X5_fits := sem_lock (sem_inl 22 (by decide +kernel) rfl ok_X5_fits)
theorem d_X5_height_0 : decode cX5_height 0 = .ok (.aload_n 0, 1) := by decide +kernel
theorem d_X5_height_1 : decode cX5_height 1 = .ok (.iload_n 1, 1) := by decide +kernel
theorem d_X5_height_2 : decode cX5_height 2 = .ok (.aload_n 0, 1) := by decide +kernel
theorem d_X5_height_3 : decode cX5_height 3 = .ok (.iload_n 2, 1) := by decide +kernel
theorem d_X5_height_4 : decode cX5_height 4 = .ok (.invokevirtual 121, 3) := by decide +kernel
theorem d_X5_height_7 : decode cX5_height 7 = .ok (.invokevirtual 213, 3) := by decide +kernel
theorem d_X5_height_10 : decode cX5_height 10 = .ok (.istore_n 3, 1) := by decide +kernel
theorem d_X5_height_11 : decode cX5_height 11 = .ok (.iload_n 3, 1) := by decide +kernel
theorem d_X5_height_12 : decode cX5_height 12 = .ok (.ifCond .eq 9, 3) := by decide +kernel
theorem d_X5_height_15 : decode cX5_height 15 = .ok (.aload_n 0, 1) := by decide +kernel
theorem d_X5_height_16 : decode cX5_height 16 = .ok (.iload_n 3, 1) := by decide +kernel
theorem d_X5_height_17 : decode cX5_height 17 = .ok (.invokevirtual 66, 3) := by decide +kernel
theorem d_X5_height_20 : decode cX5_height 20 = .ok (.ireturn, 1) := by decide +kernel
theorem d_X5_height_21 : decode cX5_height 21 = .ok (.aload_n 0, 1) := by decide +kernel
theorem d_X5_height_22 : decode cX5_height 22 = .ok (.iload_n 1, 1) := by decide +kernel
theorem d_X5_height_23 : decode cX5_height 23 = .ok (.iload_n 2, 1) := by decide +kernel
theorem d_X5_height_24 : decode cX5_height 24 = .ok (.invokevirtual 217, 3) := by decide +kernel
theorem d_X5_height_27 : decode cX5_height 27 = .ok (.aload_n 0, 1) := by decide +kernel
theorem d_X5_height_28 : decode cX5_height 28 = .ok (.aload_n 0, 1) := by decide +kernel
theorem d_X5_height_29 : decode cX5_height 29 = .ok (.getfield 207, 3) := by decide +kernel
theorem d_X5_height_32 : decode cX5_height 32 = .ok (.invokevirtual 140, 3) := by decide +kernel
theorem d_X5_height_35 : decode cX5_height 35 = .ok (.ireturn, 1) := by decide +kernel
noncomputable def P_X5_height : Nat → Op := fun pc => nd 17 pc (nd 7 pc (nd 2 pc (nd 1 pc (lf 0 pc (oALd 0 1)) (lf 1 pc (oILd 1 2))) (nd 3 pc (lf 2 pc (oALd 0 3)) (nd 4 pc (lf 3 pc (oILd 2 4)) (lf 4 pc (oCaV 2 5 S_X5_isDisputant 7))))) (nd 12 pc (nd 10 pc (lf 7 pc (oCaV 3 5 S_X5_lacks 10)) (nd 11 pc (lf 10 pc (oISt 3 11)) (lf 11 pc (oILd 3 12)))) (nd 15 pc (lf 12 pc (oIfEq 21 15)) (nd 16 pc (lf 15 pc (oALd 0 16)) (lf 16 pc (oILd 3 17)))))) (nd 24 pc (nd 21 pc (nd 20 pc (lf 17 pc (oCaV 2 5 S_X5_finding 20)) (lf 20 pc (oIRet))) (nd 22 pc (lf 21 pc (oALd 0 22)) (nd 23 pc (lf 22 pc (oILd 1 23)) (lf 23 pc (oILd 2 24))))) (nd 29 pc (nd 27 pc (lf 24 pc (oCaV 3 5 S_X5_findHeights 27)) (nd 28 pc (lf 27 pc (oALd 0 28)) (lf 28 pc (oALd 0 29)))) (nd 32 pc (lf 29 pc (oGetI 5 6 32)) (nd 35 pc (lf 32 pc (oCaV 2 5 S_X5_orNone 35)) (lf 35 pc (oIRet))))))
theorem ok_X5_height {l : Launch} {G : Gm} : ∀ pc, OkU (TXm l G (rmD 10) 4 cX5_height RX5) (RXm l G (rmD 10) 4 cX5_height RX5 (some .int)) pc (P_X5_height pc) := fun pc => ok_nd (ok_nd (ok_nd (ok_nd (ok_lf (ok_ALdn d_X5_height_0 rfl rfl)) (ok_lf (ok_ILdn d_X5_height_1 rfl rfl))) (ok_nd (ok_lf (ok_ALdn d_X5_height_2 rfl rfl)) (ok_nd (ok_lf (ok_ILdn d_X5_height_3 rfl rfl)) (ok_lf (ok_CaV su_X5_isDisputant (by decide) rfl d_X5_height_4 q823 q825 z58 q6 q826 ⟨by decide +kernel, by decide +kernel, by decide +kernel⟩ ⟨by decide, by decide⟩ rfl))))) (ok_nd (ok_nd (ok_lf (ok_CaV su_X5_lacks (by decide) rfl d_X5_height_7 q1012 q1014 z84 q6 q1015 ⟨by decide +kernel, by decide +kernel, by decide +kernel⟩ ⟨by decide, by decide⟩ rfl)) (ok_nd (ok_lf (ok_IStn d_X5_height_10 rfl rfl)) (ok_lf (ok_ILdn d_X5_height_11 rfl rfl)))) (ok_nd (ok_lf (ok_IfEq d_X5_height_12 (by decide) rfl)) (ok_nd (ok_lf (ok_ALdn d_X5_height_15 rfl rfl)) (ok_lf (ok_ILdn d_X5_height_16 rfl rfl)))))) (ok_nd (ok_nd (ok_nd (ok_lf (ok_CaV su_X5_finding (by decide) rfl d_X5_height_17 q782 q784 z56 q6 q785 ⟨by decide +kernel, by decide +kernel, by decide +kernel⟩ ⟨by decide, by decide⟩ rfl)) (ok_lf (ok_IRet d_X5_height_20))) (ok_nd (ok_lf (ok_ALdn d_X5_height_21 rfl rfl)) (ok_nd (ok_lf (ok_ILdn d_X5_height_22 rfl rfl)) (ok_lf (ok_ILdn d_X5_height_23 rfl rfl))))) (ok_nd (ok_nd (ok_lf (ok_CaV su_X5_findHeights (by decide) rfl d_X5_height_24 q1020 q1022 z85 q6 q1023 ⟨by decide +kernel, by decide +kernel, by decide +kernel⟩ ⟨by decide, by decide⟩ rfl)) (ok_nd (ok_lf (ok_ALdn d_X5_height_27 rfl rfl)) (ok_lf (ok_ALdn d_X5_height_28 rfl rfl)))) (ok_nd (ok_lf (ok_GetI (by decide) (by decide) rfl d_X5_height_29 q709 rfl)) (ok_nd (ok_lf (ok_CaV su_X5_orNone (by decide) rfl d_X5_height_32 q884 q886 z69 q6 q887 ⟨by decide +kernel, by decide +kernel, by decide +kernel⟩ ⟨by decide, by decide⟩ rfl)) (ok_lf (ok_IRet d_X5_height_35))))))
noncomputable def S_X5_height : Sem := lockS (inl P_X5_height 24 4) 0
theorem su_X5_height {l : Launch} {G : Gm} : SemU l G yX5_height (wsOf yX5_height cX5_height 4 (some .int)) 10 S_X5_height := sem_lock (sem_inl 24 (by decide +kernel) rfl ok_X5_height)
theorem d_X5_kinds_0 : decode cX5_kinds 0 = .ok (.aload_n 0, 1) := by decide +kernel
theorem d_X5_kinds_1 : decode cX5_kinds 1 = .ok (.iload_n 1, 1) := by decide +kernel
theorem d_X5_kinds_2 : decode cX5_kinds 2 = .ok (.aload_n 0, 1) := by decide +kernel
theorem d_X5_kinds_3 : decode cX5_kinds 3 = .ok (.iload_n 2, 1) := by decide +kernel
theorem d_X5_kinds_4 : decode cX5_kinds 4 = .ok (.invokevirtual 121, 3) := by decide +kernel
theorem d_X5_kinds_7 : decode cX5_kinds 7 = .ok (.invokevirtual 213, 3) := by decide +kernel
theorem d_X5_kinds_10 : decode cX5_kinds 10 = .ok (.istore_n 3, 1) := by decide +kernel
theorem d_X5_kinds_11 : decode cX5_kinds 11 = .ok (.iload_n 3, 1) := by decide +kernel
theorem d_X5_kinds_12 : decode cX5_kinds 12 = .ok (.ifCond .eq 9, 3) := by decide +kernel
theorem d_X5_kinds_15 : decode cX5_kinds 15 = .ok (.aload_n 0, 1) := by decide +kernel
theorem d_X5_kinds_16 : decode cX5_kinds 16 = .ok (.iload_n 3, 1) := by decide +kernel
theorem d_X5_kinds_17 : decode cX5_kinds 17 = .ok (.invokevirtual 66, 3) := by decide +kernel
theorem d_X5_kinds_20 : decode cX5_kinds 20 = .ok (.ireturn, 1) := by decide +kernel
theorem d_X5_kinds_21 : decode cX5_kinds 21 = .ok (.iload_n 2, 1) := by decide +kernel
theorem d_X5_kinds_22 : decode cX5_kinds 22 = .ok (.iconst 0, 1) := by decide +kernel
theorem d_X5_kinds_23 : decode cX5_kinds 23 = .ok (.invokestatic 85, 3) := by decide +kernel
theorem d_X5_kinds_26 : decode cX5_kinds 26 = .ok (.istore 4, 2) := by decide +kernel
theorem d_X5_kinds_28 : decode cX5_kinds 28 = .ok (.aload_n 0, 1) := by decide +kernel
theorem d_X5_kinds_29 : decode cX5_kinds 29 = .ok (.getfield 9, 3) := by decide +kernel
theorem d_X5_kinds_32 : decode cX5_kinds 32 = .ok (.iload 4, 2) := by decide +kernel
theorem d_X5_kinds_34 : decode cX5_kinds 34 = .ok (.iaload, 1) := by decide +kernel
theorem d_X5_kinds_35 : decode cX5_kinds 35 = .ok (.istore 5, 2) := by decide +kernel
theorem d_X5_kinds_37 : decode cX5_kinds 37 = .ok (.iconst 0, 1) := by decide +kernel
theorem d_X5_kinds_38 : decode cX5_kinds 38 = .ok (.istore 6, 2) := by decide +kernel
theorem d_X5_kinds_40 : decode cX5_kinds 40 = .ok (.iconst 0, 1) := by decide +kernel
theorem d_X5_kinds_41 : decode cX5_kinds 41 = .ok (.istore 7, 2) := by decide +kernel
theorem d_X5_kinds_43 : decode cX5_kinds 43 = .ok (.iload 7, 2) := by decide +kernel
theorem d_X5_kinds_45 : decode cX5_kinds 45 = .ok (.bipush 6, 2) := by decide +kernel
theorem d_X5_kinds_47 : decode cX5_kinds 47 = .ok (.if_icmp .gt 40, 3) := by decide +kernel
theorem d_X5_kinds_50 : decode cX5_kinds 50 = .ok (.aload_n 0, 1) := by decide +kernel
theorem d_X5_kinds_51 : decode cX5_kinds 51 = .ok (.getfield 9, 3) := by decide +kernel
theorem d_X5_kinds_54 : decode cX5_kinds 54 = .ok (.iload 4, 2) := by decide +kernel
theorem d_X5_kinds_56 : decode cX5_kinds 56 = .ok (.iload 7, 2) := by decide +kernel
theorem d_X5_kinds_58 : decode cX5_kinds 58 = .ok (.iastore, 1) := by decide +kernel
theorem d_X5_kinds_59 : decode cX5_kinds 59 = .ok (.iload 6, 2) := by decide +kernel
theorem d_X5_kinds_61 : decode cX5_kinds 61 = .ok (.aload_n 0, 1) := by decide +kernel
theorem d_X5_kinds_62 : decode cX5_kinds 62 = .ok (.iload_n 1, 1) := by decide +kernel
theorem d_X5_kinds_63 : decode cX5_kinds 63 = .ok (.iload_n 2, 1) := by decide +kernel
theorem d_X5_kinds_64 : decode cX5_kinds 64 = .ok (.invokevirtual 210, 3) := by decide +kernel
theorem d_X5_kinds_67 : decode cX5_kinds 67 = .ok (.ifCond .eq 10, 3) := by decide +kernel
theorem d_X5_kinds_70 : decode cX5_kinds 70 = .ok (.iconst 1, 1) := by decide +kernel
theorem d_X5_kinds_71 : decode cX5_kinds 71 = .ok (.iload 7, 2) := by decide +kernel
theorem d_X5_kinds_73 : decode cX5_kinds 73 = .ok (.ishl, 1) := by decide +kernel
theorem d_X5_kinds_74 : decode cX5_kinds 74 = .ok (.goto 4, 3) := by decide +kernel
theorem d_X5_kinds_77 : decode cX5_kinds 77 = .ok (.iconst 0, 1) := by decide +kernel
theorem d_X5_kinds_78 : decode cX5_kinds 78 = .ok (.ior, 1) := by decide +kernel
theorem d_X5_kinds_79 : decode cX5_kinds 79 = .ok (.istore 6, 2) := by decide +kernel
theorem d_X5_kinds_81 : decode cX5_kinds 81 = .ok (.iinc 7 1, 3) := by decide +kernel
theorem d_X5_kinds_84 : decode cX5_kinds 84 = .ok (.goto (-41), 3) := by decide +kernel
theorem d_X5_kinds_87 : decode cX5_kinds 87 = .ok (.aload_n 0, 1) := by decide +kernel
theorem d_X5_kinds_88 : decode cX5_kinds 88 = .ok (.getfield 9, 3) := by decide +kernel
theorem d_X5_kinds_91 : decode cX5_kinds 91 = .ok (.iload 4, 2) := by decide +kernel
theorem d_X5_kinds_93 : decode cX5_kinds 93 = .ok (.iload 5, 2) := by decide +kernel
theorem d_X5_kinds_95 : decode cX5_kinds 95 = .ok (.iastore, 1) := by decide +kernel
theorem d_X5_kinds_96 : decode cX5_kinds 96 = .ok (.iload 6, 2) := by decide +kernel
theorem d_X5_kinds_98 : decode cX5_kinds 98 = .ok (.ireturn, 1) := by decide +kernel
noncomputable def P_X5_kinds : Nat → Op := fun pc => nd 47 pc (nd 22 pc (nd 11 pc (nd 3 pc (nd 1 pc (lf 0 pc (oALd 0 1)) (nd 2 pc (lf 1 pc (oILd 1 2)) (lf 2 pc (oALd 0 3)))) (nd 7 pc (nd 4 pc (lf 3 pc (oILd 2 4)) (lf 4 pc (oCaV 2 5 S_X5_isDisputant 7))) (nd 10 pc (lf 7 pc (oCaV 3 5 S_X5_lacks 10)) (lf 10 pc (oISt 3 11))))) (nd 16 pc (nd 12 pc (lf 11 pc (oILd 3 12)) (nd 15 pc (lf 12 pc (oIfEq 21 15)) (lf 15 pc (oALd 0 16)))) (nd 20 pc (nd 17 pc (lf 16 pc (oILd 3 17)) (lf 17 pc (oCaV 2 5 S_X5_finding 20))) (nd 21 pc (lf 20 pc (oIRet)) (lf 21 pc (oILd 2 22)))))) (nd 35 pc (nd 28 pc (nd 23 pc (lf 22 pc (oCst 0 23)) (nd 26 pc (lf 23 pc (oCaS 2 S_X5_disputantAt 26)) (lf 26 pc (oISt 4 28)))) (nd 32 pc (nd 29 pc (lf 28 pc (oALd 0 29)) (lf 29 pc (oGetR 5 0 32))) (nd 34 pc (lf 32 pc (oILd 4 34)) (lf 34 pc (oIAL 35))))) (nd 40 pc (nd 37 pc (lf 35 pc (oISt 5 37)) (nd 38 pc (lf 37 pc (oCst 0 38)) (lf 38 pc (oISt 6 40)))) (nd 43 pc (nd 41 pc (lf 40 pc (oCst 0 41)) (lf 41 pc (oISt 7 43))) (nd 45 pc (lf 43 pc (lockO (oILd 7 45) 0)) (lf 45 pc (oCst 6 47))))))) (nd 73 pc (nd 61 pc (nd 54 pc (nd 50 pc (lf 47 pc (oCpGt 87 50)) (nd 51 pc (lf 50 pc (oALd 0 51)) (lf 51 pc (oGetR 5 0 54)))) (nd 58 pc (nd 56 pc (lf 54 pc (oILd 4 56)) (lf 56 pc (oILd 7 58))) (nd 59 pc (lf 58 pc (oIAS 59)) (lf 59 pc (oILd 6 61))))) (nd 64 pc (nd 62 pc (lf 61 pc (oALd 0 62)) (nd 63 pc (lf 62 pc (oILd 1 63)) (lf 63 pc (oILd 2 64)))) (nd 70 pc (nd 67 pc (lf 64 pc (oCaV 3 5 S_X5_isWrongSo 67)) (lf 67 pc (oIfEq 77 70))) (nd 71 pc (lf 70 pc (oCst 1 71)) (lf 71 pc (oILd 7 73)))))) (nd 87 pc (nd 78 pc (nd 74 pc (lf 73 pc (oBin (fun x y => x <<< (y &&& 31)) 74)) (nd 77 pc (lf 74 pc (oGo 78)) (lf 77 pc (oCst 0 78)))) (nd 81 pc (nd 79 pc (lf 78 pc (oBin (fun x y => x ||| y) 79)) (lf 79 pc (oISt 6 81))) (nd 84 pc (lf 81 pc (oInc 7 1 84)) (lf 84 pc (oGo 43))))) (nd 93 pc (nd 88 pc (lf 87 pc (oALd 0 88)) (nd 91 pc (lf 88 pc (oGetR 5 0 91)) (lf 91 pc (oILd 4 93)))) (nd 96 pc (nd 95 pc (lf 93 pc (oILd 5 95)) (lf 95 pc (oIAS 96))) (nd 98 pc (lf 96 pc (oILd 6 98)) (lf 98 pc (oIRet)))))))
theorem ok_X5_kinds {l : Launch} {G : Gm} : ∀ pc, OkU (TXm l G (rmD 9) 8 cX5_kinds RX5) (RXm l G (rmD 9) 8 cX5_kinds RX5 (some .int)) pc (P_X5_kinds pc) := fun pc => ok_nd (ok_nd (ok_nd (ok_nd (ok_nd (ok_lf (ok_ALdn d_X5_kinds_0 rfl rfl)) (ok_nd (ok_lf (ok_ILdn d_X5_kinds_1 rfl rfl)) (ok_lf (ok_ALdn d_X5_kinds_2 rfl rfl)))) (ok_nd (ok_nd (ok_lf (ok_ILdn d_X5_kinds_3 rfl rfl)) (ok_lf (ok_CaV su_X5_isDisputant (by decide) rfl d_X5_kinds_4 q823 q825 z58 q6 q826 ⟨by decide +kernel, by decide +kernel, by decide +kernel⟩ ⟨by decide, by decide⟩ rfl))) (ok_nd (ok_lf (ok_CaV su_X5_lacks (by decide) rfl d_X5_kinds_7 q1012 q1014 z84 q6 q1015 ⟨by decide +kernel, by decide +kernel, by decide +kernel⟩ ⟨by decide, by decide⟩ rfl)) (ok_lf (ok_IStn d_X5_kinds_10 rfl rfl))))) (ok_nd (ok_nd (ok_lf (ok_ILdn d_X5_kinds_11 rfl rfl)) (ok_nd (ok_lf (ok_IfEq d_X5_kinds_12 (by decide) rfl)) (ok_lf (ok_ALdn d_X5_kinds_15 rfl rfl)))) (ok_nd (ok_nd (ok_lf (ok_ILdn d_X5_kinds_16 rfl rfl)) (ok_lf (ok_CaV su_X5_finding (by decide) rfl d_X5_kinds_17 q782 q784 z56 q6 q785 ⟨by decide +kernel, by decide +kernel, by decide +kernel⟩ ⟨by decide, by decide⟩ rfl))) (ok_nd (ok_lf (ok_IRet d_X5_kinds_20)) (ok_lf (ok_ILdn d_X5_kinds_21 rfl rfl)))))) (ok_nd (ok_nd (ok_nd (ok_lf (ok_ICst d_X5_kinds_22 (by decide) rfl)) (ok_nd (ok_lf (ok_CaS su_X5_disputantAt d_X5_kinds_23 q816 q817 q6 q818 ⟨by decide +kernel, by decide +kernel, by decide +kernel⟩ ⟨by decide, by decide⟩ rfl)) (ok_lf (ok_ISt d_X5_kinds_26 rfl)))) (ok_nd (ok_nd (ok_lf (ok_ALdn d_X5_kinds_28 rfl rfl)) (ok_lf (ok_GetR (by decide) (by decide) rfl d_X5_kinds_29 q703 rfl))) (ok_nd (ok_lf (ok_ILd d_X5_kinds_32 rfl)) (ok_lf (ok_IAL d_X5_kinds_34 rfl))))) (ok_nd (ok_nd (ok_lf (ok_ISt d_X5_kinds_35 rfl)) (ok_nd (ok_lf (ok_ICst d_X5_kinds_37 (by decide) rfl)) (ok_lf (ok_ISt d_X5_kinds_38 rfl)))) (ok_nd (ok_nd (ok_lf (ok_ICst d_X5_kinds_40 (by decide) rfl)) (ok_lf (ok_ISt d_X5_kinds_41 rfl))) (ok_nd (ok_lf (ok_lk (ok_ILd d_X5_kinds_43 rfl))) (ok_lf (ok_BCst d_X5_kinds_45 (by decide) rfl))))))) (ok_nd (ok_nd (ok_nd (ok_nd (ok_lf (ok_CpGt d_X5_kinds_47 (by decide) rfl)) (ok_nd (ok_lf (ok_ALdn d_X5_kinds_50 rfl rfl)) (ok_lf (ok_GetR (by decide) (by decide) rfl d_X5_kinds_51 q703 rfl)))) (ok_nd (ok_nd (ok_lf (ok_ILd d_X5_kinds_54 rfl)) (ok_lf (ok_ILd d_X5_kinds_56 rfl))) (ok_nd (ok_lf (ok_IAS d_X5_kinds_58 rfl)) (ok_lf (ok_ILd d_X5_kinds_59 rfl))))) (ok_nd (ok_nd (ok_lf (ok_ALdn d_X5_kinds_61 rfl rfl)) (ok_nd (ok_lf (ok_ILdn d_X5_kinds_62 rfl rfl)) (ok_lf (ok_ILdn d_X5_kinds_63 rfl rfl)))) (ok_nd (ok_nd (ok_lf (ok_CaV su_X5_isWrongSo (by decide) rfl d_X5_kinds_64 q1024 q1026 z86 q6 q1027 ⟨by decide +kernel, by decide +kernel, by decide +kernel⟩ ⟨by decide, by decide⟩ rfl)) (ok_lf (ok_IfEq d_X5_kinds_67 (by decide) rfl))) (ok_nd (ok_lf (ok_ICst d_X5_kinds_70 (by decide) rfl)) (ok_lf (ok_ILd d_X5_kinds_71 rfl)))))) (ok_nd (ok_nd (ok_nd (ok_lf (ok_ishl d_X5_kinds_73 rfl)) (ok_nd (ok_lf (ok_Go d_X5_kinds_74 (by decide))) (ok_lf (ok_ICst d_X5_kinds_77 (by decide) rfl)))) (ok_nd (ok_nd (ok_lf (ok_ior d_X5_kinds_78 rfl)) (ok_lf (ok_ISt d_X5_kinds_79 rfl))) (ok_nd (ok_lf (ok_Inc d_X5_kinds_81 (by decide) rfl)) (ok_lf (ok_Go d_X5_kinds_84 (by decide)))))) (ok_nd (ok_nd (ok_lf (ok_ALdn d_X5_kinds_87 rfl rfl)) (ok_nd (ok_lf (ok_GetR (by decide) (by decide) rfl d_X5_kinds_88 q703 rfl)) (ok_lf (ok_ILd d_X5_kinds_91 rfl)))) (ok_nd (ok_nd (ok_lf (ok_ILd d_X5_kinds_93 rfl)) (ok_lf (ok_IAS d_X5_kinds_95 rfl))) (ok_nd (ok_lf (ok_ILd d_X5_kinds_96 rfl)) (ok_lf (ok_IRet d_X5_kinds_98)))))))
noncomputable def S_X5_kinds : Sem := lockS (inl P_X5_kinds 30000 8) 0
theorem su_X5_kinds {l : Launch} {G : Gm} : SemU l G yX5_kinds (wsOf yX5_kinds cX5_kinds 8 (some .int)) 9 S_X5_kinds := sem_lock (sem_inl 30000 (by decide +kernel) rfl ok_X5_kinds)
theorem d_X5_drawn_0 : decode cX5_drawn 0 = .ok (.aload_n 0, 1) := by decide +kernel
theorem d_X5_drawn_1 : decode cX5_drawn 1 = .ok (.getfield 9, 3) := by decide +kernel
theorem d_X5_drawn_4 : decode cX5_drawn 4 = .ok (.iconst 2, 1) := by decide +kernel
theorem d_X5_drawn_5 : decode cX5_drawn 5 = .ok (.aload_n 0, 1) := by decide +kernel
theorem d_X5_drawn_6 : decode cX5_drawn 6 = .ok (.getfield 9, 3) := by decide +kernel
theorem d_X5_drawn_9 : decode cX5_drawn 9 = .ok (.iconst 2, 1) := by decide +kernel
theorem d_X5_drawn_10 : decode cX5_drawn 10 = .ok (.iaload, 1) := by decide +kernel
theorem d_X5_drawn_11 : decode cX5_drawn 11 = .ok (.ldc 220, 2) := by decide +kernel
theorem d_X5_drawn_13 : decode cX5_drawn 13 = .ok (.imul, 1) := by decide +kernel
theorem d_X5_drawn_14 : decode cX5_drawn 14 = .ok (.sipush 12345, 3) := by decide +kernel
theorem d_X5_drawn_17 : decode cX5_drawn 17 = .ok (.iadd, 1) := by decide +kernel
theorem d_X5_drawn_18 : decode cX5_drawn 18 = .ok (.iastore, 1) := by decide +kernel
theorem d_X5_drawn_19 : decode cX5_drawn 19 = .ok (.aload_n 0, 1) := by decide +kernel
theorem d_X5_drawn_20 : decode cX5_drawn 20 = .ok (.getfield 9, 3) := by decide +kernel
theorem d_X5_drawn_23 : decode cX5_drawn 23 = .ok (.iconst 2, 1) := by decide +kernel
theorem d_X5_drawn_24 : decode cX5_drawn 24 = .ok (.iaload, 1) := by decide +kernel
theorem d_X5_drawn_25 : decode cX5_drawn 25 = .ok (.bipush 8, 2) := by decide +kernel
theorem d_X5_drawn_27 : decode cX5_drawn 27 = .ok (.iushr, 1) := by decide +kernel
theorem d_X5_drawn_28 : decode cX5_drawn 28 = .ok (.ireturn, 1) := by decide +kernel
noncomputable def P_X5_drawn : Nat → Op := fun pc => nd 14 pc (nd 6 pc (nd 4 pc (nd 1 pc (lf 0 pc (oALd 0 1)) (lf 1 pc (oGetR 5 0 4))) (nd 5 pc (lf 4 pc (oCst 2 5)) (lf 5 pc (oALd 0 6)))) (nd 10 pc (nd 9 pc (lf 6 pc (oGetR 5 0 9)) (lf 9 pc (oCst 2 10))) (nd 11 pc (lf 10 pc (oIAL 11)) (nd 13 pc (lf 11 pc (oCst (1103515245) 13)) (lf 13 pc (oBin (fun x y => x * y) 14)))))) (nd 23 pc (nd 18 pc (nd 17 pc (lf 14 pc (oCst 12345 17)) (lf 17 pc (oBin (fun x y => x + y) 18))) (nd 19 pc (lf 18 pc (oIAS 19)) (nd 20 pc (lf 19 pc (oALd 0 20)) (lf 20 pc (oGetR 5 0 23))))) (nd 25 pc (nd 24 pc (lf 23 pc (oCst 2 24)) (lf 24 pc (oIAL 25))) (nd 27 pc (lf 25 pc (oCst 8 27)) (nd 28 pc (lf 27 pc (oBin (fun x y => (x.toUInt32 >>> (y.toUInt32 &&& Int32.toUInt32 31)).toInt32) 28)) (lf 28 pc (oIRet))))))
theorem ok_X5_drawn {l : Launch} {G : Gm} : ∀ pc, OkU (TXm l G (rmD 1) 1 cX5_drawn RX5) (RXm l G (rmD 1) 1 cX5_drawn RX5 (some .int)) pc (P_X5_drawn pc) := fun pc => ok_nd (ok_nd (ok_nd (ok_nd (ok_lf (ok_ALdn d_X5_drawn_0 rfl rfl)) (ok_lf (ok_GetR (by decide) (by decide) rfl d_X5_drawn_1 q703 rfl))) (ok_nd (ok_lf (ok_ICst d_X5_drawn_4 (by decide) rfl)) (ok_lf (ok_ALdn d_X5_drawn_5 rfl rfl)))) (ok_nd (ok_nd (ok_lf (ok_GetR (by decide) (by decide) rfl d_X5_drawn_6 q703 rfl)) (ok_lf (ok_ICst d_X5_drawn_9 (by decide) rfl))) (ok_nd (ok_lf (ok_IAL d_X5_drawn_10 rfl)) (ok_nd (ok_lf (ok_Ldc d_X5_drawn_11 q1044 rfl)) (ok_lf (ok_imul d_X5_drawn_13 rfl)))))) (ok_nd (ok_nd (ok_nd (ok_lf (ok_SCst d_X5_drawn_14 (by decide) rfl)) (ok_lf (ok_iadd d_X5_drawn_17 rfl))) (ok_nd (ok_lf (ok_IAS d_X5_drawn_18 rfl)) (ok_nd (ok_lf (ok_ALdn d_X5_drawn_19 rfl rfl)) (ok_lf (ok_GetR (by decide) (by decide) rfl d_X5_drawn_20 q703 rfl))))) (ok_nd (ok_nd (ok_lf (ok_ICst d_X5_drawn_23 (by decide) rfl)) (ok_lf (ok_IAL d_X5_drawn_24 rfl))) (ok_nd (ok_lf (ok_BCst d_X5_drawn_25 (by decide) rfl)) (ok_nd (ok_lf (ok_iushr d_X5_drawn_27 rfl)) (ok_lf (ok_IRet d_X5_drawn_28))))))
noncomputable def S_X5_drawn : Sem := lockS (inl P_X5_drawn 21 1) 0
theorem su_X5_drawn {l : Launch} {G : Gm} : SemU l G yX5_drawn (wsOf yX5_drawn cX5_drawn 1 (some .int)) 1 S_X5_drawn := sem_lock (sem_inl 21 (by decide +kernel) rfl ok_X5_drawn)
theorem d_X5_toss_0 : decode cX5_toss 0 = .ok (.iload_n 1, 1) := by decide +kernel
theorem d_X5_toss_1 : decode cX5_toss 1 = .ok (.iconst 1, 1) := by decide +kernel
theorem d_X5_toss_2 : decode cX5_toss 2 = .ok (.bipush 20, 2) := by decide +kernel
theorem d_X5_toss_4 : decode cX5_toss 4 = .ok (.invokestatic 70, 3) := by decide +kernel
theorem d_X5_toss_7 : decode cX5_toss 7 = .ok (.ifCond .ne 10, 3) := by decide +kernel
theorem d_X5_toss_10 : decode cX5_toss 10 = .ok (.aload_n 0, 1) := by decide +kernel
theorem d_X5_toss_11 : decode cX5_toss 11 = .ok (.ldc 60, 2) := by decide +kernel
theorem d_X5_toss_13 : decode cX5_toss 13 = .ok (.invokevirtual 66, 3) := by decide +kernel
theorem d_X5_toss_16 : decode cX5_toss 16 = .ok (.ireturn, 1) := by decide +kernel
theorem d_X5_toss_17 : decode cX5_toss 17 = .ok (.aload_n 0, 1) := by decide +kernel
theorem d_X5_toss_18 : decode cX5_toss 18 = .ok (.getfield 9, 3) := by decide +kernel
theorem d_X5_toss_21 : decode cX5_toss 21 = .ok (.iconst 0, 1) := by decide +kernel
theorem d_X5_toss_22 : decode cX5_toss 22 = .ok (.iaload, 1) := by decide +kernel
theorem d_X5_toss_23 : decode cX5_toss 23 = .ok (.iload_n 1, 1) := by decide +kernel
theorem d_X5_toss_24 : decode cX5_toss 24 = .ok (.iadd, 1) := by decide +kernel
theorem d_X5_toss_25 : decode cX5_toss 25 = .ok (.ldc 155, 2) := by decide +kernel
theorem d_X5_toss_27 : decode cX5_toss 27 = .ok (.if_icmp .le 10, 3) := by decide +kernel
theorem d_X5_toss_30 : decode cX5_toss 30 = .ok (.aload_n 0, 1) := by decide +kernel
theorem d_X5_toss_31 : decode cX5_toss 31 = .ok (.ldc 159, 2) := by decide +kernel
theorem d_X5_toss_33 : decode cX5_toss 33 = .ok (.invokevirtual 66, 3) := by decide +kernel
theorem d_X5_toss_36 : decode cX5_toss 36 = .ok (.ireturn, 1) := by decide +kernel
theorem d_X5_toss_37 : decode cX5_toss 37 = .ok (.iconst 0, 1) := by decide +kernel
theorem d_X5_toss_38 : decode cX5_toss 38 = .ok (.istore_n 2, 1) := by decide +kernel
theorem d_X5_toss_39 : decode cX5_toss 39 = .ok (.iload_n 2, 1) := by decide +kernel
theorem d_X5_toss_40 : decode cX5_toss 40 = .ok (.iload_n 1, 1) := by decide +kernel
theorem d_X5_toss_41 : decode cX5_toss 41 = .ok (.if_icmp .ge 69, 3) := by decide +kernel
theorem d_X5_toss_44 : decode cX5_toss 44 = .ok (.aload_n 0, 1) := by decide +kernel
theorem d_X5_toss_45 : decode cX5_toss 45 = .ok (.invokevirtual 221, 3) := by decide +kernel
theorem d_X5_toss_48 : decode cX5_toss 48 = .ok (.bipush 8, 2) := by decide +kernel
theorem d_X5_toss_50 : decode cX5_toss 50 = .ok (.irem, 1) := by decide +kernel
theorem d_X5_toss_51 : decode cX5_toss 51 = .ok (.istore_n 3, 1) := by decide +kernel
theorem d_X5_toss_52 : decode cX5_toss 52 = .ok (.aload_n 0, 1) := by decide +kernel
theorem d_X5_toss_53 : decode cX5_toss 53 = .ok (.invokevirtual 221, 3) := by decide +kernel
theorem d_X5_toss_56 : decode cX5_toss 56 = .ok (.bipush 8, 2) := by decide +kernel
theorem d_X5_toss_58 : decode cX5_toss 58 = .ok (.irem, 1) := by decide +kernel
theorem d_X5_toss_59 : decode cX5_toss 59 = .ok (.istore 4, 2) := by decide +kernel
theorem d_X5_toss_61 : decode cX5_toss 61 = .ok (.aload_n 0, 1) := by decide +kernel
theorem d_X5_toss_62 : decode cX5_toss 62 = .ok (.getfield 9, 3) := by decide +kernel
theorem d_X5_toss_65 : decode cX5_toss 65 = .ok (.bipush 6, 2) := by decide +kernel
theorem d_X5_toss_67 : decode cX5_toss 67 = .ok (.aload_n 0, 1) := by decide +kernel
theorem d_X5_toss_68 : decode cX5_toss 68 = .ok (.getfield 9, 3) := by decide +kernel
theorem d_X5_toss_71 : decode cX5_toss 71 = .ok (.iconst 0, 1) := by decide +kernel
theorem d_X5_toss_72 : decode cX5_toss 72 = .ok (.iaload, 1) := by decide +kernel
theorem d_X5_toss_73 : decode cX5_toss 73 = .ok (.bipush 6, 2) := by decide +kernel
theorem d_X5_toss_75 : decode cX5_toss 75 = .ok (.irem, 1) := by decide +kernel
theorem d_X5_toss_76 : decode cX5_toss 76 = .ok (.iadd, 1) := by decide +kernel
theorem d_X5_toss_77 : decode cX5_toss 77 = .ok (.bipush 10, 2) := by decide +kernel
theorem d_X5_toss_79 : decode cX5_toss 79 = .ok (.iload_n 3, 1) := by decide +kernel
theorem d_X5_toss_80 : decode cX5_toss 80 = .ok (.imul, 1) := by decide +kernel
theorem d_X5_toss_81 : decode cX5_toss 81 = .ok (.iload 4, 2) := by decide +kernel
theorem d_X5_toss_83 : decode cX5_toss 83 = .ok (.iadd, 1) := by decide +kernel
theorem d_X5_toss_84 : decode cX5_toss 84 = .ok (.iastore, 1) := by decide +kernel
theorem d_X5_toss_85 : decode cX5_toss 85 = .ok (.aload_n 0, 1) := by decide +kernel
theorem d_X5_toss_86 : decode cX5_toss 86 = .ok (.getfield 9, 3) := by decide +kernel
theorem d_X5_toss_89 : decode cX5_toss 89 = .ok (.iconst 3, 1) := by decide +kernel
theorem d_X5_toss_90 : decode cX5_toss 90 = .ok (.iconst 1, 1) := by decide +kernel
theorem d_X5_toss_91 : decode cX5_toss 91 = .ok (.aload_n 0, 1) := by decide +kernel
theorem d_X5_toss_92 : decode cX5_toss 92 = .ok (.invokevirtual 221, 3) := by decide +kernel
theorem d_X5_toss_95 : decode cX5_toss 95 = .ok (.bipush 60, 2) := by decide +kernel
theorem d_X5_toss_97 : decode cX5_toss 97 = .ok (.irem, 1) := by decide +kernel
theorem d_X5_toss_98 : decode cX5_toss 98 = .ok (.iadd, 1) := by decide +kernel
theorem d_X5_toss_99 : decode cX5_toss 99 = .ok (.iastore, 1) := by decide +kernel
theorem d_X5_toss_100 : decode cX5_toss 100 = .ok (.aload_n 0, 1) := by decide +kernel
theorem d_X5_toss_101 : decode cX5_toss 101 = .ok (.invokevirtual 156, 3) := by decide +kernel
theorem d_X5_toss_104 : decode cX5_toss 104 = .ok (.iinc 2 1, 3) := by decide +kernel
theorem d_X5_toss_107 : decode cX5_toss 107 = .ok (.goto (-68), 3) := by decide +kernel
theorem d_X5_toss_110 : decode cX5_toss 110 = .ok (.aload_n 0, 1) := by decide +kernel
theorem d_X5_toss_111 : decode cX5_toss 111 = .ok (.iconst 3, 1) := by decide +kernel
theorem d_X5_toss_112 : decode cX5_toss 112 = .ok (.invokevirtual 164, 3) := by decide +kernel
theorem d_X5_toss_115 : decode cX5_toss 115 = .ok (.ireturn, 1) := by decide +kernel
noncomputable def P_X5_toss : Nat → Op := fun pc => nd 59 pc (nd 30 pc (nd 16 pc (nd 7 pc (nd 2 pc (nd 1 pc (lf 0 pc (oILd 1 1)) (lf 1 pc (oCst 1 2))) (nd 4 pc (lf 2 pc (oCst 20 4)) (lf 4 pc (oCaS 3 S_X5_within 7)))) (nd 11 pc (nd 10 pc (lf 7 pc (oIfEq 10 17)) (lf 10 pc (oALd 0 11))) (nd 13 pc (lf 11 pc (oCst (-1000001) 13)) (lf 13 pc (oCaV 2 5 S_X5_finding 16))))) (nd 22 pc (nd 18 pc (nd 17 pc (lf 16 pc (oIRet)) (lf 17 pc (oALd 0 18))) (nd 21 pc (lf 18 pc (oGetR 5 0 21)) (lf 21 pc (oCst 0 22)))) (nd 24 pc (nd 23 pc (lf 22 pc (oIAL 23)) (lf 23 pc (oILd 1 24))) (nd 25 pc (lf 24 pc (oBin (fun x y => x + y) 25)) (nd 27 pc (lf 25 pc (oCst (99999) 27)) (lf 27 pc (oCpGt 30 37))))))) (nd 44 pc (nd 37 pc (nd 33 pc (nd 31 pc (lf 30 pc (oALd 0 31)) (lf 31 pc (oCst (-1000005) 33))) (nd 36 pc (lf 33 pc (oCaV 2 5 S_X5_finding 36)) (lf 36 pc (oIRet)))) (nd 39 pc (nd 38 pc (lf 37 pc (oCst 0 38)) (lf 38 pc (oISt 2 39))) (nd 40 pc (lf 39 pc (lockO (oILd 2 40) 0)) (nd 41 pc (lf 40 pc (oILd 1 41)) (lf 41 pc (oCpLt 44 110)))))) (nd 51 pc (nd 48 pc (nd 45 pc (lf 44 pc (oALd 0 45)) (lf 45 pc (oCaV 1 5 S_X5_drawn 48))) (nd 50 pc (lf 48 pc (oCst 8 50)) (lf 50 pc (oDiv (fun x y => x % y) 51)))) (nd 53 pc (nd 52 pc (lf 51 pc (oISt 3 52)) (lf 52 pc (oALd 0 53))) (nd 56 pc (lf 53 pc (oCaV 1 5 S_X5_drawn 56)) (nd 58 pc (lf 56 pc (oCst 8 58)) (lf 58 pc (oDiv (fun x y => x % y) 59)))))))) (nd 85 pc (nd 73 pc (nd 67 pc (nd 62 pc (nd 61 pc (lf 59 pc (oISt 4 61)) (lf 61 pc (oALd 0 62))) (nd 65 pc (lf 62 pc (oGetR 5 0 65)) (lf 65 pc (oCst 6 67)))) (nd 71 pc (nd 68 pc (lf 67 pc (oALd 0 68)) (lf 68 pc (oGetR 5 0 71))) (nd 72 pc (lf 71 pc (oCst 0 72)) (lf 72 pc (oIAL 73))))) (nd 79 pc (nd 76 pc (nd 75 pc (lf 73 pc (oCst 6 75)) (lf 75 pc (oDiv (fun x y => x % y) 76))) (nd 77 pc (lf 76 pc (oBin (fun x y => x + y) 77)) (lf 77 pc (oCst 10 79)))) (nd 81 pc (nd 80 pc (lf 79 pc (oILd 3 80)) (lf 80 pc (oBin (fun x y => x * y) 81))) (nd 83 pc (lf 81 pc (oILd 4 83)) (nd 84 pc (lf 83 pc (oBin (fun x y => x + y) 84)) (lf 84 pc (oIAS 85))))))) (nd 99 pc (nd 91 pc (nd 89 pc (nd 86 pc (lf 85 pc (oALd 0 86)) (lf 86 pc (oGetR 5 0 89))) (nd 90 pc (lf 89 pc (oCst 3 90)) (lf 90 pc (oCst 1 91)))) (nd 95 pc (nd 92 pc (lf 91 pc (oALd 0 92)) (lf 92 pc (oCaV 1 5 S_X5_drawn 95))) (nd 97 pc (lf 95 pc (oCst 60 97)) (nd 98 pc (lf 97 pc (oDiv (fun x y => x % y) 98)) (lf 98 pc (oBin (fun x y => x + y) 99)))))) (nd 107 pc (nd 101 pc (nd 100 pc (lf 99 pc (oIAS 100)) (lf 100 pc (oALd 0 101))) (nd 104 pc (lf 101 pc (oCaV 1 5 S_X5_drop 104)) (lf 104 pc (oInc 2 1 107)))) (nd 111 pc (nd 110 pc (lf 107 pc (oGo 39)) (lf 110 pc (oALd 0 111))) (nd 112 pc (lf 111 pc (oCst 3 112)) (nd 115 pc (lf 112 pc (oCaV 2 5 S_X5_sumOf 115)) (lf 115 pc (oIRet))))))))
theorem ok_X5_toss {l : Launch} {G : Gm} : ∀ pc, OkU (TXm l G (rmD 8) 5 cX5_toss RX5) (RXm l G (rmD 8) 5 cX5_toss RX5 (some .int)) pc (P_X5_toss pc) := fun pc => ok_nd (ok_nd (ok_nd (ok_nd (ok_nd (ok_nd (ok_lf (ok_ILdn d_X5_toss_0 rfl rfl)) (ok_lf (ok_ICst d_X5_toss_1 (by decide) rfl))) (ok_nd (ok_lf (ok_BCst d_X5_toss_2 (by decide) rfl)) (ok_lf (ok_CaS su_X5_within d_X5_toss_4 q774 q775 q6 q776 ⟨by decide +kernel, by decide +kernel, by decide +kernel⟩ ⟨by decide, by decide⟩ rfl)))) (ok_nd (ok_nd (ok_lf (ok_IfNe d_X5_toss_7 (by decide) rfl)) (ok_lf (ok_ALdn d_X5_toss_10 rfl rfl))) (ok_nd (ok_lf (ok_Ldc d_X5_toss_11 q781 rfl)) (ok_lf (ok_CaV su_X5_finding (by decide) rfl d_X5_toss_13 q782 q784 z56 q6 q785 ⟨by decide +kernel, by decide +kernel, by decide +kernel⟩ ⟨by decide, by decide⟩ rfl))))) (ok_nd (ok_nd (ok_nd (ok_lf (ok_IRet d_X5_toss_16)) (ok_lf (ok_ALdn d_X5_toss_17 rfl rfl))) (ok_nd (ok_lf (ok_GetR (by decide) (by decide) rfl d_X5_toss_18 q703 rfl)) (ok_lf (ok_ICst d_X5_toss_21 (by decide) rfl)))) (ok_nd (ok_nd (ok_lf (ok_IAL d_X5_toss_22 rfl)) (ok_lf (ok_ILdn d_X5_toss_23 rfl rfl))) (ok_nd (ok_lf (ok_iadd d_X5_toss_24 rfl)) (ok_nd (ok_lf (ok_Ldc d_X5_toss_25 q893 rfl)) (ok_lf (ok_CpLe d_X5_toss_27 (by decide) rfl))))))) (ok_nd (ok_nd (ok_nd (ok_nd (ok_lf (ok_ALdn d_X5_toss_30 rfl rfl)) (ok_lf (ok_Ldc d_X5_toss_31 q894 rfl))) (ok_nd (ok_lf (ok_CaV su_X5_finding (by decide) rfl d_X5_toss_33 q782 q784 z56 q6 q785 ⟨by decide +kernel, by decide +kernel, by decide +kernel⟩ ⟨by decide, by decide⟩ rfl)) (ok_lf (ok_IRet d_X5_toss_36)))) (ok_nd (ok_nd (ok_lf (ok_ICst d_X5_toss_37 (by decide) rfl)) (ok_lf (ok_IStn d_X5_toss_38 rfl rfl))) (ok_nd (ok_lf (ok_lk (ok_ILdn d_X5_toss_39 rfl rfl))) (ok_nd (ok_lf (ok_ILdn d_X5_toss_40 rfl rfl)) (ok_lf (ok_CpGe d_X5_toss_41 (by decide) rfl)))))) (ok_nd (ok_nd (ok_nd (ok_lf (ok_ALdn d_X5_toss_44 rfl rfl)) (ok_lf (ok_CaV su_X5_drawn (by decide) rfl d_X5_toss_45 q1040 q1042 z87 q6 q1043 ⟨by decide +kernel, by decide +kernel, by decide +kernel⟩ ⟨by decide, by decide⟩ rfl))) (ok_nd (ok_lf (ok_BCst d_X5_toss_48 (by decide) rfl)) (ok_lf (ok_irem d_X5_toss_50 rfl)))) (ok_nd (ok_nd (ok_lf (ok_IStn d_X5_toss_51 rfl rfl)) (ok_lf (ok_ALdn d_X5_toss_52 rfl rfl))) (ok_nd (ok_lf (ok_CaV su_X5_drawn (by decide) rfl d_X5_toss_53 q1040 q1042 z87 q6 q1043 ⟨by decide +kernel, by decide +kernel, by decide +kernel⟩ ⟨by decide, by decide⟩ rfl)) (ok_nd (ok_lf (ok_BCst d_X5_toss_56 (by decide) rfl)) (ok_lf (ok_irem d_X5_toss_58 rfl)))))))) (ok_nd (ok_nd (ok_nd (ok_nd (ok_nd (ok_lf (ok_ISt d_X5_toss_59 rfl)) (ok_lf (ok_ALdn d_X5_toss_61 rfl rfl))) (ok_nd (ok_lf (ok_GetR (by decide) (by decide) rfl d_X5_toss_62 q703 rfl)) (ok_lf (ok_BCst d_X5_toss_65 (by decide) rfl)))) (ok_nd (ok_nd (ok_lf (ok_ALdn d_X5_toss_67 rfl rfl)) (ok_lf (ok_GetR (by decide) (by decide) rfl d_X5_toss_68 q703 rfl))) (ok_nd (ok_lf (ok_ICst d_X5_toss_71 (by decide) rfl)) (ok_lf (ok_IAL d_X5_toss_72 rfl))))) (ok_nd (ok_nd (ok_nd (ok_lf (ok_BCst d_X5_toss_73 (by decide) rfl)) (ok_lf (ok_irem d_X5_toss_75 rfl))) (ok_nd (ok_lf (ok_iadd d_X5_toss_76 rfl)) (ok_lf (ok_BCst d_X5_toss_77 (by decide) rfl)))) (ok_nd (ok_nd (ok_lf (ok_ILdn d_X5_toss_79 rfl rfl)) (ok_lf (ok_imul d_X5_toss_80 rfl))) (ok_nd (ok_lf (ok_ILd d_X5_toss_81 rfl)) (ok_nd (ok_lf (ok_iadd d_X5_toss_83 rfl)) (ok_lf (ok_IAS d_X5_toss_84 rfl))))))) (ok_nd (ok_nd (ok_nd (ok_nd (ok_lf (ok_ALdn d_X5_toss_85 rfl rfl)) (ok_lf (ok_GetR (by decide) (by decide) rfl d_X5_toss_86 q703 rfl))) (ok_nd (ok_lf (ok_ICst d_X5_toss_89 (by decide) rfl)) (ok_lf (ok_ICst d_X5_toss_90 (by decide) rfl)))) (ok_nd (ok_nd (ok_lf (ok_ALdn d_X5_toss_91 rfl rfl)) (ok_lf (ok_CaV su_X5_drawn (by decide) rfl d_X5_toss_92 q1040 q1042 z87 q6 q1043 ⟨by decide +kernel, by decide +kernel, by decide +kernel⟩ ⟨by decide, by decide⟩ rfl))) (ok_nd (ok_lf (ok_BCst d_X5_toss_95 (by decide) rfl)) (ok_nd (ok_lf (ok_irem d_X5_toss_97 rfl)) (ok_lf (ok_iadd d_X5_toss_98 rfl)))))) (ok_nd (ok_nd (ok_nd (ok_lf (ok_IAS d_X5_toss_99 rfl)) (ok_lf (ok_ALdn d_X5_toss_100 rfl rfl))) (ok_nd (ok_lf (ok_CaV su_X5_drop (by decide) rfl d_X5_toss_101 q899 q901 z71 q6 q902 ⟨by decide +kernel, by decide +kernel, by decide +kernel⟩ ⟨by decide, by decide⟩ rfl)) (ok_lf (ok_Inc d_X5_toss_104 (by decide) rfl)))) (ok_nd (ok_nd (ok_lf (ok_Go d_X5_toss_107 (by decide))) (ok_lf (ok_ALdn d_X5_toss_110 rfl rfl))) (ok_nd (ok_lf (ok_ICst d_X5_toss_111 (by decide) rfl)) (ok_nd (ok_lf (ok_CaV su_X5_sumOf (by decide) rfl d_X5_toss_112 q915 q917 z75 q6 q918 ⟨by decide +kernel, by decide +kernel, by decide +kernel⟩ ⟨by decide, by decide⟩ rfl)) (ok_lf (ok_IRet d_X5_toss_115))))))))
noncomputable def S_X5_toss : Sem := lockS (inl P_X5_toss 30000 5) 0
theorem su_X5_toss {l : Launch} {G : Gm} : SemU l G yX5_toss (wsOf yX5_toss cX5_toss 5 (some .int)) 8 S_X5_toss := sem_lock (sem_inl 30000 (by decide +kernel) rfl ok_X5_toss)
