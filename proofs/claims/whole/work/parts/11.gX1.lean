theorem d_X1_pressesAsParson_0 : decode cX1_pressesAsParson 0 = .ok (.aload_n 0, 1) := by decide +kernel
theorem d_X1_pressesAsParson_1 : decode cX1_pressesAsParson 1 = .ok (.getfield 15, 3) := by decide +kernel
theorem d_X1_pressesAsParson_4 : decode cX1_pressesAsParson 4 = .ok (.iload_n 1, 1) := by decide +kernel
theorem d_X1_pressesAsParson_5 : decode cX1_pressesAsParson 5 = .ok (.iadd, 1) := by decide +kernel
theorem d_X1_pressesAsParson_6 : decode cX1_pressesAsParson 6 = .ok (.iload_n 1, 1) := by decide +kernel
theorem d_X1_pressesAsParson_7 : decode cX1_pressesAsParson 7 = .ok (.iconst 5, 1) := by decide +kernel
theorem d_X1_pressesAsParson_8 : decode cX1_pressesAsParson 8 = .ok (.if_icmp .lt 7, 3) := by decide +kernel
theorem d_X1_pressesAsParson_11 : decode cX1_pressesAsParson 11 = .ok (.iload_n 1, 1) := by decide +kernel
theorem d_X1_pressesAsParson_12 : decode cX1_pressesAsParson 12 = .ok (.goto 4, 3) := by decide +kernel
theorem d_X1_pressesAsParson_15 : decode cX1_pressesAsParson 15 = .ok (.iconst 0, 1) := by decide +kernel
theorem d_X1_pressesAsParson_16 : decode cX1_pressesAsParson 16 = .ok (.iadd, 1) := by decide +kernel
theorem d_X1_pressesAsParson_17 : decode cX1_pressesAsParson 17 = .ok (.ireturn, 1) := by decide +kernel
noncomputable def P_X1_pressesAsParson : Nat → Op := fun pc => nd 8 pc (nd 5 pc (nd 1 pc (lf 0 pc (oALd 0 1)) (nd 4 pc (lf 1 pc (oGetI 1 1 4)) (lf 4 pc (oILd 1 5)))) (nd 6 pc (lf 5 pc (oBin (fun x y => x + y) 6)) (nd 7 pc (lf 6 pc (oILd 1 7)) (lf 7 pc (oCst 5 8))))) (nd 15 pc (nd 11 pc (lf 8 pc (oCpLt 15 11)) (nd 12 pc (lf 11 pc (oILd 1 12)) (lf 12 pc (oGo 16)))) (nd 16 pc (lf 15 pc (oCst 0 16)) (nd 17 pc (lf 16 pc (oBin (fun x y => x + y) 17)) (lf 17 pc (oIRet)))))
theorem ok_X1_pressesAsParson {l : Launch} {G : Gm} : ∀ pc, OkU (TXm l G (rmD 1) 2 cX1_pressesAsParson RX1) (RXm l G (rmD 1) 2 cX1_pressesAsParson RX1 (some .int)) pc (P_X1_pressesAsParson pc) := fun pc => ok_nd (ok_nd (ok_nd (ok_lf (ok_ALdn d_X1_pressesAsParson_0 rfl rfl)) (ok_nd (ok_lf (ok_GetI (by decide) (by decide) rfl d_X1_pressesAsParson_1 q37 rfl)) (ok_lf (ok_ILdn d_X1_pressesAsParson_4 rfl rfl)))) (ok_nd (ok_lf (ok_iadd d_X1_pressesAsParson_5 rfl)) (ok_nd (ok_lf (ok_ILdn d_X1_pressesAsParson_6 rfl rfl)) (ok_lf (ok_ICst d_X1_pressesAsParson_7 (by decide) rfl))))) (ok_nd (ok_nd (ok_lf (ok_CpLt d_X1_pressesAsParson_8 (by decide) rfl)) (ok_nd (ok_lf (ok_ILdn d_X1_pressesAsParson_11 rfl rfl)) (ok_lf (ok_Go d_X1_pressesAsParson_12 (by decide))))) (ok_nd (ok_lf (ok_ICst d_X1_pressesAsParson_15 (by decide) rfl)) (ok_nd (ok_lf (ok_iadd d_X1_pressesAsParson_16 rfl)) (ok_lf (ok_IRet d_X1_pressesAsParson_17)))))
noncomputable def S_X1_pressesAsParson : Sem := lockS (inl P_X1_pressesAsParson 14 2) 0
theorem su_X1_pressesAsParson {l : Launch} {G : Gm} : SemU l G yX1_pressesAsParson (wsOf yX1_pressesAsParson cX1_pressesAsParson 2 (some .int)) 1 S_X1_pressesAsParson := sem_lock (sem_inl 14 (by decide +kernel) rfl ok_X1_pressesAsParson)
theorem d_X1_presses_0 : decode cX1_presses 0 = .ok (.aload_n 0, 1) := by decide +kernel
theorem d_X1_presses_1 : decode cX1_presses 1 = .ok (.getfield 11, 3) := by decide +kernel
theorem d_X1_presses_4 : decode cX1_presses 4 = .ok (.tableswitch 103 1 6 #[40, 70, 77, 83, 96, 52], 40) := by decide +kernel
theorem d_X1_presses_44 : decode cX1_presses 44 = .ok (.aload_n 0, 1) := by decide +kernel
theorem d_X1_presses_45 : decode cX1_presses 45 = .ok (.getfield 15, 3) := by decide +kernel
theorem d_X1_presses_48 : decode cX1_presses 48 = .ok (.aload_n 0, 1) := by decide +kernel
theorem d_X1_presses_49 : decode cX1_presses 49 = .ok (.getfield 18, 3) := by decide +kernel
theorem d_X1_presses_52 : decode cX1_presses 52 = .ok (.iconst 4, 1) := by decide +kernel
theorem d_X1_presses_53 : decode cX1_presses 53 = .ok (.idiv, 1) := by decide +kernel
theorem d_X1_presses_54 : decode cX1_presses 54 = .ok (.iadd, 1) := by decide +kernel
theorem d_X1_presses_55 : decode cX1_presses 55 = .ok (.ireturn, 1) := by decide +kernel
theorem d_X1_presses_56 : decode cX1_presses 56 = .ok (.aload_n 0, 1) := by decide +kernel
theorem d_X1_presses_57 : decode cX1_presses 57 = .ok (.getfield 15, 3) := by decide +kernel
theorem d_X1_presses_60 : decode cX1_presses 60 = .ok (.aload_n 0, 1) := by decide +kernel
theorem d_X1_presses_61 : decode cX1_presses 61 = .ok (.getfield 18, 3) := by decide +kernel
theorem d_X1_presses_64 : decode cX1_presses 64 = .ok (.iconst 4, 1) := by decide +kernel
theorem d_X1_presses_65 : decode cX1_presses 65 = .ok (.idiv, 1) := by decide +kernel
theorem d_X1_presses_66 : decode cX1_presses 66 = .ok (.iadd, 1) := by decide +kernel
theorem d_X1_presses_67 : decode cX1_presses 67 = .ok (.iconst 5, 1) := by decide +kernel
theorem d_X1_presses_68 : decode cX1_presses 68 = .ok (.isub, 1) := by decide +kernel
theorem d_X1_presses_69 : decode cX1_presses 69 = .ok (.iconst 0, 1) := by decide +kernel
theorem d_X1_presses_70 : decode cX1_presses 70 = .ok (.invokestatic 47, 3) := by decide +kernel
theorem d_X1_presses_73 : decode cX1_presses 73 = .ok (.ireturn, 1) := by decide +kernel
theorem d_X1_presses_74 : decode cX1_presses 74 = .ok (.aload_n 0, 1) := by decide +kernel
theorem d_X1_presses_75 : decode cX1_presses 75 = .ok (.getfield 15, 3) := by decide +kernel
theorem d_X1_presses_78 : decode cX1_presses 78 = .ok (.iload_n 1, 1) := by decide +kernel
theorem d_X1_presses_79 : decode cX1_presses 79 = .ok (.iadd, 1) := by decide +kernel
theorem d_X1_presses_80 : decode cX1_presses 80 = .ok (.ireturn, 1) := by decide +kernel
theorem d_X1_presses_81 : decode cX1_presses 81 = .ok (.aload_n 0, 1) := by decide +kernel
theorem d_X1_presses_82 : decode cX1_presses 82 = .ok (.iload_n 1, 1) := by decide +kernel
theorem d_X1_presses_83 : decode cX1_presses 83 = .ok (.invokevirtual 53, 3) := by decide +kernel
theorem d_X1_presses_86 : decode cX1_presses 86 = .ok (.ireturn, 1) := by decide +kernel
theorem d_X1_presses_87 : decode cX1_presses 87 = .ok (.iconst 2, 1) := by decide +kernel
theorem d_X1_presses_88 : decode cX1_presses 88 = .ok (.aload_n 0, 1) := by decide +kernel
theorem d_X1_presses_89 : decode cX1_presses 89 = .ok (.iload_n 1, 1) := by decide +kernel
theorem d_X1_presses_90 : decode cX1_presses 90 = .ok (.invokevirtual 53, 3) := by decide +kernel
theorem d_X1_presses_93 : decode cX1_presses 93 = .ok (.imul, 1) := by decide +kernel
theorem d_X1_presses_94 : decode cX1_presses 94 = .ok (.bipush 99, 2) := by decide +kernel
theorem d_X1_presses_96 : decode cX1_presses 96 = .ok (.invokestatic 56, 3) := by decide +kernel
theorem d_X1_presses_99 : decode cX1_presses 99 = .ok (.ireturn, 1) := by decide +kernel
theorem d_X1_presses_100 : decode cX1_presses 100 = .ok (.aload_n 0, 1) := by decide +kernel
theorem d_X1_presses_101 : decode cX1_presses 101 = .ok (.getfield 15, 3) := by decide +kernel
theorem d_X1_presses_104 : decode cX1_presses 104 = .ok (.iconst 2, 1) := by decide +kernel
theorem d_X1_presses_105 : decode cX1_presses 105 = .ok (.idiv, 1) := by decide +kernel
theorem d_X1_presses_106 : decode cX1_presses 106 = .ok (.ireturn, 1) := by decide +kernel
theorem d_X1_presses_107 : decode cX1_presses 107 = .ok (.aload_n 0, 1) := by decide +kernel
theorem d_X1_presses_108 : decode cX1_presses 108 = .ok (.getfield 15, 3) := by decide +kernel
theorem d_X1_presses_111 : decode cX1_presses 111 = .ok (.ireturn, 1) := by decide +kernel
noncomputable def P_X1_presses : Nat → Op := fun pc => nd 75 pc (nd 57 pc (nd 49 pc (nd 44 pc (nd 1 pc (lf 0 pc (oALd 0 1)) (nd 4 pc (lf 1 pc (oGetI 1 0 4)) (lf 4 pc (oSw [(1, 44), (2, 74), (3, 81), (4, 87), (5, 100), (6, 56)] 107)))) (nd 45 pc (lf 44 pc (oALd 0 45)) (nd 48 pc (lf 45 pc (oGetI 1 1 48)) (lf 48 pc (oALd 0 49))))) (nd 54 pc (nd 52 pc (lf 49 pc (oGetI 1 2 52)) (nd 53 pc (lf 52 pc (oCst 4 53)) (lf 53 pc (oDiv (fun x y => x / y) 54)))) (nd 55 pc (lf 54 pc (oBin (fun x y => x + y) 55)) (nd 56 pc (lf 55 pc (oIRet)) (lf 56 pc (oALd 0 57)))))) (nd 67 pc (nd 64 pc (nd 60 pc (lf 57 pc (oGetI 1 1 60)) (nd 61 pc (lf 60 pc (oALd 0 61)) (lf 61 pc (oGetI 1 2 64)))) (nd 65 pc (lf 64 pc (oCst 4 65)) (nd 66 pc (lf 65 pc (oDiv (fun x y => x / y) 66)) (lf 66 pc (oBin (fun x y => x + y) 67))))) (nd 70 pc (nd 68 pc (lf 67 pc (oCst 5 68)) (nd 69 pc (lf 68 pc (oBin (fun x y => x - y) 69)) (lf 69 pc (oCst 0 70)))) (nd 73 pc (lf 70 pc (oMax 73)) (nd 74 pc (lf 73 pc (oIRet)) (lf 74 pc (oALd 0 75))))))) (nd 93 pc (nd 83 pc (nd 80 pc (nd 78 pc (lf 75 pc (oGetI 1 1 78)) (nd 79 pc (lf 78 pc (oILd 1 79)) (lf 79 pc (oBin (fun x y => x + y) 80)))) (nd 81 pc (lf 80 pc (oIRet)) (nd 82 pc (lf 81 pc (oALd 0 82)) (lf 82 pc (oILd 1 83))))) (nd 88 pc (nd 86 pc (lf 83 pc (oCaV 2 1 S_X1_pressesAsParson 86)) (nd 87 pc (lf 86 pc (oIRet)) (lf 87 pc (oCst 2 88)))) (nd 89 pc (lf 88 pc (oALd 0 89)) (nd 90 pc (lf 89 pc (oILd 1 90)) (lf 90 pc (oCaV 2 1 S_X1_pressesAsParson 93)))))) (nd 104 pc (nd 99 pc (nd 94 pc (lf 93 pc (oBin (fun x y => x * y) 94)) (nd 96 pc (lf 94 pc (oCst 99 96)) (lf 96 pc (oMin 99)))) (nd 100 pc (lf 99 pc (oIRet)) (nd 101 pc (lf 100 pc (oALd 0 101)) (lf 101 pc (oGetI 1 1 104))))) (nd 107 pc (nd 105 pc (lf 104 pc (oCst 2 105)) (nd 106 pc (lf 105 pc (oDiv (fun x y => x / y) 106)) (lf 106 pc (oIRet)))) (nd 108 pc (lf 107 pc (oALd 0 108)) (nd 111 pc (lf 108 pc (oGetI 1 1 111)) (lf 111 pc (oIRet)))))))
theorem ok_X1_presses {l : Launch} {G : Gm} : ∀ pc, OkU (TXm l G (rmD 2) 2 cX1_presses RX1) (RXm l G (rmD 2) 2 cX1_presses RX1 (some .int)) pc (P_X1_presses pc) := fun pc => ok_nd (ok_nd (ok_nd (ok_nd (ok_nd (ok_lf (ok_ALdn d_X1_presses_0 rfl rfl)) (ok_nd (ok_lf (ok_GetI (by decide) (by decide) rfl d_X1_presses_1 q35 rfl)) (ok_lf (ok_Tab d_X1_presses_4 (by decide) (by decide) (by decide) (by decide))))) (ok_nd (ok_lf (ok_ALdn d_X1_presses_44 rfl rfl)) (ok_nd (ok_lf (ok_GetI (by decide) (by decide) rfl d_X1_presses_45 q37 rfl)) (ok_lf (ok_ALdn d_X1_presses_48 rfl rfl))))) (ok_nd (ok_nd (ok_lf (ok_GetI (by decide) (by decide) rfl d_X1_presses_49 q40 rfl)) (ok_nd (ok_lf (ok_ICst d_X1_presses_52 (by decide) rfl)) (ok_lf (ok_idiv d_X1_presses_53 rfl)))) (ok_nd (ok_lf (ok_iadd d_X1_presses_54 rfl)) (ok_nd (ok_lf (ok_IRet d_X1_presses_55)) (ok_lf (ok_ALdn d_X1_presses_56 rfl rfl)))))) (ok_nd (ok_nd (ok_nd (ok_lf (ok_GetI (by decide) (by decide) rfl d_X1_presses_57 q37 rfl)) (ok_nd (ok_lf (ok_ALdn d_X1_presses_60 rfl rfl)) (ok_lf (ok_GetI (by decide) (by decide) rfl d_X1_presses_61 q40 rfl)))) (ok_nd (ok_lf (ok_ICst d_X1_presses_64 (by decide) rfl)) (ok_nd (ok_lf (ok_idiv d_X1_presses_65 rfl)) (ok_lf (ok_iadd d_X1_presses_66 rfl))))) (ok_nd (ok_nd (ok_lf (ok_ICst d_X1_presses_67 (by decide) rfl)) (ok_nd (ok_lf (ok_isub d_X1_presses_68 rfl)) (ok_lf (ok_ICst d_X1_presses_69 (by decide) rfl)))) (ok_nd (ok_lf (ok_Max d_X1_presses_70 q239 q240 q7 q241 ⟨by decide, by decide⟩ rfl)) (ok_nd (ok_lf (ok_IRet d_X1_presses_73)) (ok_lf (ok_ALdn d_X1_presses_74 rfl rfl))))))) (ok_nd (ok_nd (ok_nd (ok_nd (ok_lf (ok_GetI (by decide) (by decide) rfl d_X1_presses_75 q37 rfl)) (ok_nd (ok_lf (ok_ILdn d_X1_presses_78 rfl rfl)) (ok_lf (ok_iadd d_X1_presses_79 rfl)))) (ok_nd (ok_lf (ok_IRet d_X1_presses_80)) (ok_nd (ok_lf (ok_ALdn d_X1_presses_81 rfl rfl)) (ok_lf (ok_ILdn d_X1_presses_82 rfl rfl))))) (ok_nd (ok_nd (ok_lf (ok_CaV su_X1_pressesAsParson (by decide) rfl d_X1_presses_83 q242 q244 z7 q3 q245 ⟨by decide +kernel, by decide +kernel, by decide +kernel⟩ ⟨by decide, by decide⟩ rfl)) (ok_nd (ok_lf (ok_IRet d_X1_presses_86)) (ok_lf (ok_ICst d_X1_presses_87 (by decide) rfl)))) (ok_nd (ok_lf (ok_ALdn d_X1_presses_88 rfl rfl)) (ok_nd (ok_lf (ok_ILdn d_X1_presses_89 rfl rfl)) (ok_lf (ok_CaV su_X1_pressesAsParson (by decide) rfl d_X1_presses_90 q242 q244 z7 q3 q245 ⟨by decide +kernel, by decide +kernel, by decide +kernel⟩ ⟨by decide, by decide⟩ rfl)))))) (ok_nd (ok_nd (ok_nd (ok_lf (ok_imul d_X1_presses_93 rfl)) (ok_nd (ok_lf (ok_BCst d_X1_presses_94 (by decide) rfl)) (ok_lf (ok_Min d_X1_presses_96 q246 q247 q7 q248 ⟨by decide, by decide⟩ rfl)))) (ok_nd (ok_lf (ok_IRet d_X1_presses_99)) (ok_nd (ok_lf (ok_ALdn d_X1_presses_100 rfl rfl)) (ok_lf (ok_GetI (by decide) (by decide) rfl d_X1_presses_101 q37 rfl))))) (ok_nd (ok_nd (ok_lf (ok_ICst d_X1_presses_104 (by decide) rfl)) (ok_nd (ok_lf (ok_idiv d_X1_presses_105 rfl)) (ok_lf (ok_IRet d_X1_presses_106)))) (ok_nd (ok_lf (ok_ALdn d_X1_presses_107 rfl rfl)) (ok_nd (ok_lf (ok_GetI (by decide) (by decide) rfl d_X1_presses_108 q37 rfl)) (ok_lf (ok_IRet d_X1_presses_111)))))))
noncomputable def S_X1_presses : Sem := lockS (inl P_X1_presses 50 2) 0
theorem su_X1_presses {l : Launch} {G : Gm} : SemU l G yX1_presses (wsOf yX1_presses cX1_presses 2 (some .int)) 2 S_X1_presses := sem_lock (sem_inl 50 (by decide +kernel) rfl ok_X1_presses)
theorem d_X1_jolts_0 : decode cX1_jolts 0 = .ok (.aload_n 0, 1) := by decide +kernel
theorem d_X1_jolts_1 : decode cX1_jolts 1 = .ok (.getfield 11, 3) := by decide +kernel
theorem d_X1_jolts_4 : decode cX1_jolts 4 = .ok (.tableswitch 66 1 6 #[40, 50, 52, 52, 56, 40], 40) := by decide +kernel
theorem d_X1_jolts_44 : decode cX1_jolts 44 = .ok (.aload_n 0, 1) := by decide +kernel
theorem d_X1_jolts_45 : decode cX1_jolts 45 = .ok (.getfield 18, 3) := by decide +kernel
theorem d_X1_jolts_48 : decode cX1_jolts 48 = .ok (.bipush 10, 2) := by decide +kernel
theorem d_X1_jolts_50 : decode cX1_jolts 50 = .ok (.idiv, 1) := by decide +kernel
theorem d_X1_jolts_51 : decode cX1_jolts 51 = .ok (.iconst 1, 1) := by decide +kernel
theorem d_X1_jolts_52 : decode cX1_jolts 52 = .ok (.iadd, 1) := by decide +kernel
theorem d_X1_jolts_53 : decode cX1_jolts 53 = .ok (.ireturn, 1) := by decide +kernel
theorem d_X1_jolts_54 : decode cX1_jolts 54 = .ok (.iconst 0, 1) := by decide +kernel
theorem d_X1_jolts_55 : decode cX1_jolts 55 = .ok (.ireturn, 1) := by decide +kernel
theorem d_X1_jolts_56 : decode cX1_jolts 56 = .ok (.iload_n 1, 1) := by decide +kernel
theorem d_X1_jolts_57 : decode cX1_jolts 57 = .ok (.iconst 2, 1) := by decide +kernel
theorem d_X1_jolts_58 : decode cX1_jolts 58 = .ok (.irem, 1) := by decide +kernel
theorem d_X1_jolts_59 : decode cX1_jolts 59 = .ok (.ireturn, 1) := by decide +kernel
theorem d_X1_jolts_60 : decode cX1_jolts 60 = .ok (.aload_n 0, 1) := by decide +kernel
theorem d_X1_jolts_61 : decode cX1_jolts 61 = .ok (.getfield 18, 3) := by decide +kernel
theorem d_X1_jolts_64 : decode cX1_jolts 64 = .ok (.bipush 10, 2) := by decide +kernel
theorem d_X1_jolts_66 : decode cX1_jolts 66 = .ok (.idiv, 1) := by decide +kernel
theorem d_X1_jolts_67 : decode cX1_jolts 67 = .ok (.iconst 3, 1) := by decide +kernel
theorem d_X1_jolts_68 : decode cX1_jolts 68 = .ok (.iadd, 1) := by decide +kernel
theorem d_X1_jolts_69 : decode cX1_jolts 69 = .ok (.ireturn, 1) := by decide +kernel
theorem d_X1_jolts_70 : decode cX1_jolts 70 = .ok (.aload_n 0, 1) := by decide +kernel
theorem d_X1_jolts_71 : decode cX1_jolts 71 = .ok (.getfield 18, 3) := by decide +kernel
theorem d_X1_jolts_74 : decode cX1_jolts 74 = .ok (.bipush 10, 2) := by decide +kernel
theorem d_X1_jolts_76 : decode cX1_jolts 76 = .ok (.idiv, 1) := by decide +kernel
theorem d_X1_jolts_77 : decode cX1_jolts 77 = .ok (.ireturn, 1) := by decide +kernel
noncomputable def P_X1_jolts : Nat → Op := fun pc => nd 58 pc (nd 51 pc (nd 44 pc (nd 1 pc (lf 0 pc (oALd 0 1)) (nd 4 pc (lf 1 pc (oGetI 1 0 4)) (lf 4 pc (oSw [(1, 44), (2, 54), (3, 56), (4, 56), (5, 60), (6, 44)] 70)))) (nd 48 pc (nd 45 pc (lf 44 pc (oALd 0 45)) (lf 45 pc (oGetI 1 2 48))) (nd 50 pc (lf 48 pc (oCst 10 50)) (lf 50 pc (oDiv (fun x y => x / y) 51))))) (nd 54 pc (nd 52 pc (lf 51 pc (oCst 1 52)) (nd 53 pc (lf 52 pc (oBin (fun x y => x + y) 53)) (lf 53 pc (oIRet)))) (nd 56 pc (nd 55 pc (lf 54 pc (oCst 0 55)) (lf 55 pc (oIRet))) (nd 57 pc (lf 56 pc (oILd 1 57)) (lf 57 pc (oCst 2 58)))))) (nd 68 pc (nd 61 pc (nd 59 pc (lf 58 pc (oDiv (fun x y => x % y) 59)) (nd 60 pc (lf 59 pc (oIRet)) (lf 60 pc (oALd 0 61)))) (nd 66 pc (nd 64 pc (lf 61 pc (oGetI 1 2 64)) (lf 64 pc (oCst 10 66))) (nd 67 pc (lf 66 pc (oDiv (fun x y => x / y) 67)) (lf 67 pc (oCst 3 68))))) (nd 71 pc (nd 69 pc (lf 68 pc (oBin (fun x y => x + y) 69)) (nd 70 pc (lf 69 pc (oIRet)) (lf 70 pc (oALd 0 71)))) (nd 76 pc (nd 74 pc (lf 71 pc (oGetI 1 2 74)) (lf 74 pc (oCst 10 76))) (nd 77 pc (lf 76 pc (oDiv (fun x y => x / y) 77)) (lf 77 pc (oIRet))))))
theorem ok_X1_jolts {l : Launch} {G : Gm} : ∀ pc, OkU (TXm l G (rmD 1) 2 cX1_jolts RX1) (RXm l G (rmD 1) 2 cX1_jolts RX1 (some .int)) pc (P_X1_jolts pc) := fun pc => ok_nd (ok_nd (ok_nd (ok_nd (ok_lf (ok_ALdn d_X1_jolts_0 rfl rfl)) (ok_nd (ok_lf (ok_GetI (by decide) (by decide) rfl d_X1_jolts_1 q35 rfl)) (ok_lf (ok_Tab d_X1_jolts_4 (by decide) (by decide) (by decide) (by decide))))) (ok_nd (ok_nd (ok_lf (ok_ALdn d_X1_jolts_44 rfl rfl)) (ok_lf (ok_GetI (by decide) (by decide) rfl d_X1_jolts_45 q40 rfl))) (ok_nd (ok_lf (ok_BCst d_X1_jolts_48 (by decide) rfl)) (ok_lf (ok_idiv d_X1_jolts_50 rfl))))) (ok_nd (ok_nd (ok_lf (ok_ICst d_X1_jolts_51 (by decide) rfl)) (ok_nd (ok_lf (ok_iadd d_X1_jolts_52 rfl)) (ok_lf (ok_IRet d_X1_jolts_53)))) (ok_nd (ok_nd (ok_lf (ok_ICst d_X1_jolts_54 (by decide) rfl)) (ok_lf (ok_IRet d_X1_jolts_55))) (ok_nd (ok_lf (ok_ILdn d_X1_jolts_56 rfl rfl)) (ok_lf (ok_ICst d_X1_jolts_57 (by decide) rfl)))))) (ok_nd (ok_nd (ok_nd (ok_lf (ok_irem d_X1_jolts_58 rfl)) (ok_nd (ok_lf (ok_IRet d_X1_jolts_59)) (ok_lf (ok_ALdn d_X1_jolts_60 rfl rfl)))) (ok_nd (ok_nd (ok_lf (ok_GetI (by decide) (by decide) rfl d_X1_jolts_61 q40 rfl)) (ok_lf (ok_BCst d_X1_jolts_64 (by decide) rfl))) (ok_nd (ok_lf (ok_idiv d_X1_jolts_66 rfl)) (ok_lf (ok_ICst d_X1_jolts_67 (by decide) rfl))))) (ok_nd (ok_nd (ok_lf (ok_iadd d_X1_jolts_68 rfl)) (ok_nd (ok_lf (ok_IRet d_X1_jolts_69)) (ok_lf (ok_ALdn d_X1_jolts_70 rfl rfl)))) (ok_nd (ok_nd (ok_lf (ok_GetI (by decide) (by decide) rfl d_X1_jolts_71 q40 rfl)) (ok_lf (ok_BCst d_X1_jolts_74 (by decide) rfl))) (ok_nd (ok_lf (ok_idiv d_X1_jolts_76 rfl)) (ok_lf (ok_IRet d_X1_jolts_77))))))
noncomputable def S_X1_jolts : Sem := lockS (inl P_X1_jolts 30 2) 0
theorem su_X1_jolts {l : Launch} {G : Gm} : SemU l G yX1_jolts (wsOf yX1_jolts cX1_jolts 2 (some .int)) 1 S_X1_jolts := sem_lock (sem_inl 30 (by decide +kernel) rfl ok_X1_jolts)
theorem d_X1_grows_0 : decode cX1_grows 0 = .ok (.aload_n 0, 1) := by decide +kernel
theorem d_X1_grows_1 : decode cX1_grows 1 = .ok (.getfield 11, 3) := by decide +kernel
theorem d_X1_grows_4 : decode cX1_grows 4 = .ok (.tableswitch 50 1 6 #[40, 43, 45, 45, 47, 40], 40) := by decide +kernel
theorem d_X1_grows_44 : decode cX1_grows 44 = .ok (.bipush 12, 2) := by decide +kernel
theorem d_X1_grows_46 : decode cX1_grows 46 = .ok (.ireturn, 1) := by decide +kernel
theorem d_X1_grows_47 : decode cX1_grows 47 = .ok (.iconst 3, 1) := by decide +kernel
theorem d_X1_grows_48 : decode cX1_grows 48 = .ok (.ireturn, 1) := by decide +kernel
theorem d_X1_grows_49 : decode cX1_grows 49 = .ok (.iconst 0, 1) := by decide +kernel
theorem d_X1_grows_50 : decode cX1_grows 50 = .ok (.ireturn, 1) := by decide +kernel
theorem d_X1_grows_51 : decode cX1_grows 51 = .ok (.bipush 8, 2) := by decide +kernel
theorem d_X1_grows_53 : decode cX1_grows 53 = .ok (.ireturn, 1) := by decide +kernel
theorem d_X1_grows_54 : decode cX1_grows 54 = .ok (.bipush 6, 2) := by decide +kernel
theorem d_X1_grows_56 : decode cX1_grows 56 = .ok (.ireturn, 1) := by decide +kernel
noncomputable def P_X1_grows : Nat → Op := fun pc => nd 48 pc (nd 44 pc (nd 1 pc (lf 0 pc (oALd 0 1)) (nd 4 pc (lf 1 pc (oGetI 1 0 4)) (lf 4 pc (oSw [(1, 44), (2, 47), (3, 49), (4, 49), (5, 51), (6, 44)] 54)))) (nd 46 pc (lf 44 pc (oCst 12 46)) (nd 47 pc (lf 46 pc (oIRet)) (lf 47 pc (oCst 3 48))))) (nd 51 pc (nd 49 pc (lf 48 pc (oIRet)) (nd 50 pc (lf 49 pc (oCst 0 50)) (lf 50 pc (oIRet)))) (nd 54 pc (nd 53 pc (lf 51 pc (oCst 8 53)) (lf 53 pc (oIRet))) (nd 56 pc (lf 54 pc (oCst 6 56)) (lf 56 pc (oIRet)))))
theorem ok_X1_grows {l : Launch} {G : Gm} : ∀ pc, OkU (TXm l G (rmD 1) 1 cX1_grows RX1) (RXm l G (rmD 1) 1 cX1_grows RX1 (some .int)) pc (P_X1_grows pc) := fun pc => ok_nd (ok_nd (ok_nd (ok_lf (ok_ALdn d_X1_grows_0 rfl rfl)) (ok_nd (ok_lf (ok_GetI (by decide) (by decide) rfl d_X1_grows_1 q35 rfl)) (ok_lf (ok_Tab d_X1_grows_4 (by decide) (by decide) (by decide) (by decide))))) (ok_nd (ok_lf (ok_BCst d_X1_grows_44 (by decide) rfl)) (ok_nd (ok_lf (ok_IRet d_X1_grows_46)) (ok_lf (ok_ICst d_X1_grows_47 (by decide) rfl))))) (ok_nd (ok_nd (ok_lf (ok_IRet d_X1_grows_48)) (ok_nd (ok_lf (ok_ICst d_X1_grows_49 (by decide) rfl)) (ok_lf (ok_IRet d_X1_grows_50)))) (ok_nd (ok_nd (ok_lf (ok_BCst d_X1_grows_51 (by decide) rfl)) (ok_lf (ok_IRet d_X1_grows_53))) (ok_nd (ok_lf (ok_BCst d_X1_grows_54 (by decide) rfl)) (ok_lf (ok_IRet d_X1_grows_56)))))
noncomputable def S_X1_grows : Sem := lockS (inl P_X1_grows 15 1) 0
theorem su_X1_grows {l : Launch} {G : Gm} : SemU l G yX1_grows (wsOf yX1_grows cX1_grows 1 (some .int)) 1 S_X1_grows := sem_lock (sem_inl 15 (by decide +kernel) rfl ok_X1_grows)
theorem d_X1_learns_0 : decode cX1_learns 0 = .ok (.aload_n 0, 1) := by decide +kernel
theorem d_X1_learns_1 : decode cX1_learns 1 = .ok (.getfield 11, 3) := by decide +kernel
theorem d_X1_learns_4 : decode cX1_learns 4 = .ok (.lookupswitch 43 #[(1, 36), (5, 40), (6, 38)], 36) := by decide +kernel
theorem d_X1_learns_40 : decode cX1_learns 40 = .ok (.iconst 0, 1) := by decide +kernel
theorem d_X1_learns_41 : decode cX1_learns 41 = .ok (.ireturn, 1) := by decide +kernel
theorem d_X1_learns_42 : decode cX1_learns 42 = .ok (.iconst 5, 1) := by decide +kernel
theorem d_X1_learns_43 : decode cX1_learns 43 = .ok (.ireturn, 1) := by decide +kernel
theorem d_X1_learns_44 : decode cX1_learns 44 = .ok (.bipush 7, 2) := by decide +kernel
theorem d_X1_learns_46 : decode cX1_learns 46 = .ok (.ireturn, 1) := by decide +kernel
theorem d_X1_learns_47 : decode cX1_learns 47 = .ok (.iconst 3, 1) := by decide +kernel
theorem d_X1_learns_48 : decode cX1_learns 48 = .ok (.ireturn, 1) := by decide +kernel
noncomputable def P_X1_learns : Nat → Op := fun pc => nd 42 pc (nd 4 pc (nd 1 pc (lf 0 pc (oALd 0 1)) (lf 1 pc (oGetI 1 0 4))) (nd 40 pc (lf 4 pc (oSw [(1, 40), (5, 44), (6, 42)] 47)) (nd 41 pc (lf 40 pc (oCst 0 41)) (lf 41 pc (oIRet))))) (nd 46 pc (nd 43 pc (lf 42 pc (oCst 5 43)) (nd 44 pc (lf 43 pc (oIRet)) (lf 44 pc (oCst 7 46)))) (nd 47 pc (lf 46 pc (oIRet)) (nd 48 pc (lf 47 pc (oCst 3 48)) (lf 48 pc (oIRet)))))
theorem ok_X1_learns {l : Launch} {G : Gm} : ∀ pc, OkU (TXm l G (rmD 1) 1 cX1_learns RX1) (RXm l G (rmD 1) 1 cX1_learns RX1 (some .int)) pc (P_X1_learns pc) := fun pc => ok_nd (ok_nd (ok_nd (ok_lf (ok_ALdn d_X1_learns_0 rfl rfl)) (ok_lf (ok_GetI (by decide) (by decide) rfl d_X1_learns_1 q35 rfl))) (ok_nd (ok_lf (ok_Look d_X1_learns_4 (by decide) (by decide) (by decide))) (ok_nd (ok_lf (ok_ICst d_X1_learns_40 (by decide) rfl)) (ok_lf (ok_IRet d_X1_learns_41))))) (ok_nd (ok_nd (ok_lf (ok_ICst d_X1_learns_42 (by decide) rfl)) (ok_nd (ok_lf (ok_IRet d_X1_learns_43)) (ok_lf (ok_BCst d_X1_learns_44 (by decide) rfl)))) (ok_nd (ok_lf (ok_IRet d_X1_learns_46)) (ok_nd (ok_lf (ok_ICst d_X1_learns_47 (by decide) rfl)) (ok_lf (ok_IRet d_X1_learns_48)))))
noncomputable def S_X1_learns : Sem := lockS (inl P_X1_learns 13 1) 0
theorem su_X1_learns {l : Launch} {G : Gm} : SemU l G yX1_learns (wsOf yX1_learns cX1_learns 1 (some .int)) 1 S_X1_learns := sem_lock (sem_inl 13 (by decide +kernel) rfl ok_X1_learns)
theorem d_X1_cools_0 : decode cX1_cools 0 = .ok (.aload_n 0, 1) := by decide +kernel
theorem d_X1_cools_1 : decode cX1_cools 1 = .ok (.getfield 11, 3) := by decide +kernel
theorem d_X1_cools_4 : decode cX1_cools 4 = .ok (.tableswitch 40 2 6 #[36, 36, 36, 38, 36], 36) := by decide +kernel
theorem d_X1_cools_40 : decode cX1_cools 40 = .ok (.iconst 2, 1) := by decide +kernel
theorem d_X1_cools_41 : decode cX1_cools 41 = .ok (.ireturn, 1) := by decide +kernel
theorem d_X1_cools_42 : decode cX1_cools 42 = .ok (.iconst 5, 1) := by decide +kernel
theorem d_X1_cools_43 : decode cX1_cools 43 = .ok (.ireturn, 1) := by decide +kernel
theorem d_X1_cools_44 : decode cX1_cools 44 = .ok (.iconst 1, 1) := by decide +kernel
theorem d_X1_cools_45 : decode cX1_cools 45 = .ok (.ireturn, 1) := by decide +kernel
noncomputable def P_X1_cools : Nat → Op := fun pc => nd 41 pc (nd 4 pc (nd 1 pc (lf 0 pc (oALd 0 1)) (lf 1 pc (oGetI 1 0 4))) (nd 40 pc (lf 4 pc (oSw [(2, 40), (3, 40), (4, 40), (5, 42), (6, 40)] 44)) (lf 40 pc (oCst 2 41)))) (nd 43 pc (nd 42 pc (lf 41 pc (oIRet)) (lf 42 pc (oCst 5 43))) (nd 44 pc (lf 43 pc (oIRet)) (nd 45 pc (lf 44 pc (oCst 1 45)) (lf 45 pc (oIRet)))))
theorem ok_X1_cools {l : Launch} {G : Gm} : ∀ pc, OkU (TXm l G (rmD 1) 1 cX1_cools RX1) (RXm l G (rmD 1) 1 cX1_cools RX1 (some .int)) pc (P_X1_cools pc) := fun pc => ok_nd (ok_nd (ok_nd (ok_lf (ok_ALdn d_X1_cools_0 rfl rfl)) (ok_lf (ok_GetI (by decide) (by decide) rfl d_X1_cools_1 q35 rfl))) (ok_nd (ok_lf (ok_Tab d_X1_cools_4 (by decide) (by decide) (by decide) (by decide))) (ok_lf (ok_ICst d_X1_cools_40 (by decide) rfl)))) (ok_nd (ok_nd (ok_lf (ok_IRet d_X1_cools_41)) (ok_lf (ok_ICst d_X1_cools_42 (by decide) rfl))) (ok_nd (ok_lf (ok_IRet d_X1_cools_43)) (ok_nd (ok_lf (ok_ICst d_X1_cools_44 (by decide) rfl)) (ok_lf (ok_IRet d_X1_cools_45)))))
noncomputable def S_X1_cools : Sem := lockS (inl P_X1_cools 11 1) 0
theorem su_X1_cools {l : Launch} {G : Gm} : SemU l G yX1_cools (wsOf yX1_cools cX1_cools 1 (some .int)) 1 S_X1_cools := sem_lock (sem_inl 11 (by decide +kernel) rfl ok_X1_cools)
theorem d_X1_begin_0 : decode cX1_begin 0 = .ok (.aload_n 0, 1) := by decide +kernel
theorem d_X1_begin_1 : decode cX1_begin 1 = .ok (.iload_n 1, 1) := by decide +kernel
theorem d_X1_begin_2 : decode cX1_begin 2 = .ok (.putfield 11, 3) := by decide +kernel
theorem d_X1_begin_5 : decode cX1_begin 5 = .ok (.aload_n 0, 1) := by decide +kernel
theorem d_X1_begin_6 : decode cX1_begin 6 = .ok (.iload_n 2, 1) := by decide +kernel
theorem d_X1_begin_7 : decode cX1_begin 7 = .ok (.putfield 15, 3) := by decide +kernel
theorem d_X1_begin_10 : decode cX1_begin 10 = .ok (.aload_n 0, 1) := by decide +kernel
theorem d_X1_begin_11 : decode cX1_begin 11 = .ok (.bipush 20, 2) := by decide +kernel
theorem d_X1_begin_13 : decode cX1_begin 13 = .ok (.putfield 18, 3) := by decide +kernel
theorem d_X1_begin_16 : decode cX1_begin 16 = .ok (.aload_n 0, 1) := by decide +kernel
theorem d_X1_begin_17 : decode cX1_begin 17 = .ok (.iconst 0, 1) := by decide +kernel
theorem d_X1_begin_18 : decode cX1_begin 18 = .ok (.putfield 21, 3) := by decide +kernel
theorem d_X1_begin_21 : decode cX1_begin 21 = .ok (.aload_n 0, 1) := by decide +kernel
theorem d_X1_begin_22 : decode cX1_begin 22 = .ok (.iconst 0, 1) := by decide +kernel
theorem d_X1_begin_23 : decode cX1_begin 23 = .ok (.putfield 24, 3) := by decide +kernel
theorem d_X1_begin_26 : decode cX1_begin 26 = .ok (.aload_n 0, 1) := by decide +kernel
theorem d_X1_begin_27 : decode cX1_begin 27 = .ok (.iconst 0, 1) := by decide +kernel
theorem d_X1_begin_28 : decode cX1_begin 28 = .ok (.putfield 27, 3) := by decide +kernel
theorem d_X1_begin_31 : decode cX1_begin 31 = .ok (.return_, 1) := by decide +kernel
noncomputable def P_X1_begin : Nat → Op := fun pc => nd 16 pc (nd 6 pc (nd 2 pc (nd 1 pc (lf 0 pc (oALd 0 1)) (lf 1 pc (oILd 1 2))) (nd 5 pc (lf 2 pc (oPutI 1 0 5)) (lf 5 pc (oALd 0 6)))) (nd 10 pc (nd 7 pc (lf 6 pc (oILd 2 7)) (lf 7 pc (oPutI 1 1 10))) (nd 11 pc (lf 10 pc (oALd 0 11)) (nd 13 pc (lf 11 pc (oCst 20 13)) (lf 13 pc (oPutI 1 2 16)))))) (nd 23 pc (nd 18 pc (nd 17 pc (lf 16 pc (oALd 0 17)) (lf 17 pc (oCst 0 18))) (nd 21 pc (lf 18 pc (oPutI 1 3 21)) (nd 22 pc (lf 21 pc (oALd 0 22)) (lf 22 pc (oCst 0 23))))) (nd 27 pc (nd 26 pc (lf 23 pc (oPutI 1 4 26)) (lf 26 pc (oALd 0 27))) (nd 28 pc (lf 27 pc (oCst 0 28)) (nd 31 pc (lf 28 pc (oPutI 1 5 31)) (lf 31 pc (oVRet))))))
theorem ok_X1_begin {l : Launch} {G : Gm} : ∀ pc, OkU (TXm l G (rmD 1) 3 cX1_begin RX1) (RXm l G (rmD 1) 3 cX1_begin RX1 none) pc (P_X1_begin pc) := fun pc => ok_nd (ok_nd (ok_nd (ok_nd (ok_lf (ok_ALdn d_X1_begin_0 rfl rfl)) (ok_lf (ok_ILdn d_X1_begin_1 rfl rfl))) (ok_nd (ok_lf (ok_PutI (by decide) (by decide) rfl rfl (by decide +kernel) d_X1_begin_2 q35 rfl)) (ok_lf (ok_ALdn d_X1_begin_5 rfl rfl)))) (ok_nd (ok_nd (ok_lf (ok_ILdn d_X1_begin_6 rfl rfl)) (ok_lf (ok_PutI (by decide) (by decide) rfl rfl (by decide +kernel) d_X1_begin_7 q37 rfl))) (ok_nd (ok_lf (ok_ALdn d_X1_begin_10 rfl rfl)) (ok_nd (ok_lf (ok_BCst d_X1_begin_11 (by decide) rfl)) (ok_lf (ok_PutI (by decide) (by decide) rfl rfl (by decide +kernel) d_X1_begin_13 q40 rfl)))))) (ok_nd (ok_nd (ok_nd (ok_lf (ok_ALdn d_X1_begin_16 rfl rfl)) (ok_lf (ok_ICst d_X1_begin_17 (by decide) rfl))) (ok_nd (ok_lf (ok_PutI (by decide) (by decide) rfl rfl (by decide +kernel) d_X1_begin_18 q44 rfl)) (ok_nd (ok_lf (ok_ALdn d_X1_begin_21 rfl rfl)) (ok_lf (ok_ICst d_X1_begin_22 (by decide) rfl))))) (ok_nd (ok_nd (ok_lf (ok_PutI (by decide) (by decide) rfl rfl (by decide +kernel) d_X1_begin_23 q47 rfl)) (ok_lf (ok_ALdn d_X1_begin_26 rfl rfl))) (ok_nd (ok_lf (ok_ICst d_X1_begin_27 (by decide) rfl)) (ok_nd (ok_lf (ok_PutI (by decide) (by decide) rfl rfl (by decide +kernel) d_X1_begin_28 q50 rfl)) (ok_lf (ok_VRet d_X1_begin_31))))))
noncomputable def S_X1_begin : Sem := lockS (inl P_X1_begin 21 3) 0
theorem su_X1_begin {l : Launch} {G : Gm} : SemU l G yX1_begin (wsOf yX1_begin cX1_begin 3 none) 1 S_X1_begin := sem_lock (sem_inl 21 (by decide +kernel) rfl ok_X1_begin)
theorem d_X1_become_0 : decode cX1_become 0 = .ok (.aload_n 0, 1) := by decide +kernel
theorem d_X1_become_1 : decode cX1_become 1 = .ok (.aload_n 1, 1) := by decide +kernel
theorem d_X1_become_2 : decode cX1_become 2 = .ok (.getfield 11, 3) := by decide +kernel
theorem d_X1_become_5 : decode cX1_become 5 = .ok (.putfield 11, 3) := by decide +kernel
theorem d_X1_become_8 : decode cX1_become 8 = .ok (.aload_n 0, 1) := by decide +kernel
theorem d_X1_become_9 : decode cX1_become 9 = .ok (.aload_n 1, 1) := by decide +kernel
theorem d_X1_become_10 : decode cX1_become 10 = .ok (.getfield 15, 3) := by decide +kernel
theorem d_X1_become_13 : decode cX1_become 13 = .ok (.putfield 15, 3) := by decide +kernel
theorem d_X1_become_16 : decode cX1_become 16 = .ok (.aload_n 0, 1) := by decide +kernel
theorem d_X1_become_17 : decode cX1_become 17 = .ok (.aload_n 1, 1) := by decide +kernel
theorem d_X1_become_18 : decode cX1_become 18 = .ok (.getfield 18, 3) := by decide +kernel
theorem d_X1_become_21 : decode cX1_become 21 = .ok (.putfield 18, 3) := by decide +kernel
theorem d_X1_become_24 : decode cX1_become 24 = .ok (.aload_n 0, 1) := by decide +kernel
theorem d_X1_become_25 : decode cX1_become 25 = .ok (.aload_n 1, 1) := by decide +kernel
theorem d_X1_become_26 : decode cX1_become 26 = .ok (.getfield 21, 3) := by decide +kernel
theorem d_X1_become_29 : decode cX1_become 29 = .ok (.putfield 21, 3) := by decide +kernel
theorem d_X1_become_32 : decode cX1_become 32 = .ok (.aload_n 0, 1) := by decide +kernel
theorem d_X1_become_33 : decode cX1_become 33 = .ok (.aload_n 1, 1) := by decide +kernel
theorem d_X1_become_34 : decode cX1_become 34 = .ok (.getfield 24, 3) := by decide +kernel
theorem d_X1_become_37 : decode cX1_become 37 = .ok (.putfield 24, 3) := by decide +kernel
theorem d_X1_become_40 : decode cX1_become 40 = .ok (.aload_n 0, 1) := by decide +kernel
theorem d_X1_become_41 : decode cX1_become 41 = .ok (.aload_n 1, 1) := by decide +kernel
theorem d_X1_become_42 : decode cX1_become 42 = .ok (.getfield 27, 3) := by decide +kernel
theorem d_X1_become_45 : decode cX1_become 45 = .ok (.putfield 27, 3) := by decide +kernel
theorem d_X1_become_48 : decode cX1_become 48 = .ok (.return_, 1) := by decide +kernel
noncomputable def P_X1_become : Nat → Op := fun pc => nd 24 pc (nd 10 pc (nd 5 pc (nd 1 pc (lf 0 pc (oALd 0 1)) (nd 2 pc (lf 1 pc (oALd 1 2)) (lf 2 pc (oGetI 1 0 5)))) (nd 8 pc (lf 5 pc (oPutI 1 0 8)) (nd 9 pc (lf 8 pc (oALd 0 9)) (lf 9 pc (oALd 1 10))))) (nd 17 pc (nd 13 pc (lf 10 pc (oGetI 1 1 13)) (nd 16 pc (lf 13 pc (oPutI 1 1 16)) (lf 16 pc (oALd 0 17)))) (nd 18 pc (lf 17 pc (oALd 1 18)) (nd 21 pc (lf 18 pc (oGetI 1 2 21)) (lf 21 pc (oPutI 1 2 24)))))) (nd 34 pc (nd 29 pc (nd 25 pc (lf 24 pc (oALd 0 25)) (nd 26 pc (lf 25 pc (oALd 1 26)) (lf 26 pc (oGetI 1 3 29)))) (nd 32 pc (lf 29 pc (oPutI 1 3 32)) (nd 33 pc (lf 32 pc (oALd 0 33)) (lf 33 pc (oALd 1 34))))) (nd 41 pc (nd 37 pc (lf 34 pc (oGetI 1 4 37)) (nd 40 pc (lf 37 pc (oPutI 1 4 40)) (lf 40 pc (oALd 0 41)))) (nd 45 pc (nd 42 pc (lf 41 pc (oALd 1 42)) (lf 42 pc (oGetI 1 5 45))) (nd 48 pc (lf 45 pc (oPutI 1 5 48)) (lf 48 pc (oVRet))))))
theorem ok_X1_become {l : Launch} {G : Gm} : ∀ pc, OkU (TXm l G (rmD 1) 2 cX1_become RX1) (RXm l G (rmD 1) 2 cX1_become RX1 none) pc (P_X1_become pc) := fun pc => ok_nd (ok_nd (ok_nd (ok_nd (ok_lf (ok_ALdn d_X1_become_0 rfl rfl)) (ok_nd (ok_lf (ok_ALdn d_X1_become_1 rfl rfl)) (ok_lf (ok_GetI (by decide) (by decide) rfl d_X1_become_2 q35 rfl)))) (ok_nd (ok_lf (ok_PutI (by decide) (by decide) rfl rfl (by decide +kernel) d_X1_become_5 q35 rfl)) (ok_nd (ok_lf (ok_ALdn d_X1_become_8 rfl rfl)) (ok_lf (ok_ALdn d_X1_become_9 rfl rfl))))) (ok_nd (ok_nd (ok_lf (ok_GetI (by decide) (by decide) rfl d_X1_become_10 q37 rfl)) (ok_nd (ok_lf (ok_PutI (by decide) (by decide) rfl rfl (by decide +kernel) d_X1_become_13 q37 rfl)) (ok_lf (ok_ALdn d_X1_become_16 rfl rfl)))) (ok_nd (ok_lf (ok_ALdn d_X1_become_17 rfl rfl)) (ok_nd (ok_lf (ok_GetI (by decide) (by decide) rfl d_X1_become_18 q40 rfl)) (ok_lf (ok_PutI (by decide) (by decide) rfl rfl (by decide +kernel) d_X1_become_21 q40 rfl)))))) (ok_nd (ok_nd (ok_nd (ok_lf (ok_ALdn d_X1_become_24 rfl rfl)) (ok_nd (ok_lf (ok_ALdn d_X1_become_25 rfl rfl)) (ok_lf (ok_GetI (by decide) (by decide) rfl d_X1_become_26 q44 rfl)))) (ok_nd (ok_lf (ok_PutI (by decide) (by decide) rfl rfl (by decide +kernel) d_X1_become_29 q44 rfl)) (ok_nd (ok_lf (ok_ALdn d_X1_become_32 rfl rfl)) (ok_lf (ok_ALdn d_X1_become_33 rfl rfl))))) (ok_nd (ok_nd (ok_lf (ok_GetI (by decide) (by decide) rfl d_X1_become_34 q47 rfl)) (ok_nd (ok_lf (ok_PutI (by decide) (by decide) rfl rfl (by decide +kernel) d_X1_become_37 q47 rfl)) (ok_lf (ok_ALdn d_X1_become_40 rfl rfl)))) (ok_nd (ok_nd (ok_lf (ok_ALdn d_X1_become_41 rfl rfl)) (ok_lf (ok_GetI (by decide) (by decide) rfl d_X1_become_42 q50 rfl))) (ok_nd (ok_lf (ok_PutI (by decide) (by decide) rfl rfl (by decide +kernel) d_X1_become_45 q50 rfl)) (ok_lf (ok_VRet d_X1_become_48))))))
noncomputable def S_X1_become : Sem := lockS (inl P_X1_become 27 2) 0
theorem su_X1_become {l : Launch} {G : Gm} : SemU l G yX1_become (wsOf yX1_become cX1_become 2 none) 1 S_X1_become := sem_lock (sem_inl 27 (by decide +kernel) rfl ok_X1_become)
theorem d_X1_most_0 : decode cX1_most 0 = .ok (.iload_n 1, 1) := by decide +kernel
theorem d_X1_most_1 : decode cX1_most 1 = .ok (.tableswitch 45 0 4 #[35, 38, 38, 41, 41], 35) := by decide +kernel
theorem d_X1_most_36 : decode cX1_most 36 = .ok (.bipush 6, 2) := by decide +kernel
theorem d_X1_most_38 : decode cX1_most 38 = .ok (.ireturn, 1) := by decide +kernel
theorem d_X1_most_39 : decode cX1_most 39 = .ok (.bipush 99, 2) := by decide +kernel
theorem d_X1_most_41 : decode cX1_most 41 = .ok (.ireturn, 1) := by decide +kernel
theorem d_X1_most_42 : decode cX1_most 42 = .ok (.sipush 9999, 3) := by decide +kernel
theorem d_X1_most_45 : decode cX1_most 45 = .ok (.ireturn, 1) := by decide +kernel
theorem d_X1_most_46 : decode cX1_most 46 = .ok (.iconst 1, 1) := by decide +kernel
theorem d_X1_most_47 : decode cX1_most 47 = .ok (.ireturn, 1) := by decide +kernel
noncomputable def P_X1_most : Nat → Op := fun pc => nd 41 pc (nd 36 pc (nd 1 pc (lf 0 pc (oILd 1 1)) (lf 1 pc (oSw [(0, 36), (1, 39), (2, 39), (3, 42), (4, 42)] 46))) (nd 38 pc (lf 36 pc (oCst 6 38)) (nd 39 pc (lf 38 pc (oIRet)) (lf 39 pc (oCst 99 41))))) (nd 45 pc (nd 42 pc (lf 41 pc (oIRet)) (lf 42 pc (oCst 9999 45))) (nd 46 pc (lf 45 pc (oIRet)) (nd 47 pc (lf 46 pc (oCst 1 47)) (lf 47 pc (oIRet)))))
theorem ok_X1_most {l : Launch} {G : Gm} : ∀ pc, OkU (TXm l G (rmD 1) 2 cX1_most RX1) (RXm l G (rmD 1) 2 cX1_most RX1 (some .int)) pc (P_X1_most pc) := fun pc => ok_nd (ok_nd (ok_nd (ok_lf (ok_ILdn d_X1_most_0 rfl rfl)) (ok_lf (ok_Tab d_X1_most_1 (by decide) (by decide) (by decide) (by decide)))) (ok_nd (ok_lf (ok_BCst d_X1_most_36 (by decide) rfl)) (ok_nd (ok_lf (ok_IRet d_X1_most_38)) (ok_lf (ok_BCst d_X1_most_39 (by decide) rfl))))) (ok_nd (ok_nd (ok_lf (ok_IRet d_X1_most_41)) (ok_lf (ok_SCst d_X1_most_42 (by decide) rfl))) (ok_nd (ok_lf (ok_IRet d_X1_most_45)) (ok_nd (ok_lf (ok_ICst d_X1_most_46 (by decide) rfl)) (ok_lf (ok_IRet d_X1_most_47)))))
noncomputable def S_X1_most : Sem := inl P_X1_most 12 2
theorem su_X1_most {l : Launch} {G : Gm} : SemU l G yX1_most (wsOf yX1_most cX1_most 2 (some .int)) 1 S_X1_most := sem_inl 12 (by decide +kernel) rfl ok_X1_most
theorem d_X1_put_0 : decode cX1_put 0 = .ok (.iload_n 1, 1) := by decide +kernel
theorem d_X1_put_1 : decode cX1_put 1 = .ok (.tableswitch 75 0 4 #[35, 43, 51, 59, 67], 35) := by decide +kernel
theorem d_X1_put_36 : decode cX1_put 36 = .ok (.aload_n 0, 1) := by decide +kernel
theorem d_X1_put_37 : decode cX1_put 37 = .ok (.iload_n 2, 1) := by decide +kernel
theorem d_X1_put_38 : decode cX1_put 38 = .ok (.putfield 11, 3) := by decide +kernel
theorem d_X1_put_41 : decode cX1_put 41 = .ok (.goto 40, 3) := by decide +kernel
theorem d_X1_put_44 : decode cX1_put 44 = .ok (.aload_n 0, 1) := by decide +kernel
theorem d_X1_put_45 : decode cX1_put 45 = .ok (.iload_n 2, 1) := by decide +kernel
theorem d_X1_put_46 : decode cX1_put 46 = .ok (.putfield 15, 3) := by decide +kernel
theorem d_X1_put_49 : decode cX1_put 49 = .ok (.goto 32, 3) := by decide +kernel
theorem d_X1_put_52 : decode cX1_put 52 = .ok (.aload_n 0, 1) := by decide +kernel
theorem d_X1_put_53 : decode cX1_put 53 = .ok (.iload_n 2, 1) := by decide +kernel
theorem d_X1_put_54 : decode cX1_put 54 = .ok (.putfield 18, 3) := by decide +kernel
theorem d_X1_put_57 : decode cX1_put 57 = .ok (.goto 24, 3) := by decide +kernel
theorem d_X1_put_60 : decode cX1_put 60 = .ok (.aload_n 0, 1) := by decide +kernel
theorem d_X1_put_61 : decode cX1_put 61 = .ok (.iload_n 2, 1) := by decide +kernel
theorem d_X1_put_62 : decode cX1_put 62 = .ok (.putfield 21, 3) := by decide +kernel
theorem d_X1_put_65 : decode cX1_put 65 = .ok (.goto 16, 3) := by decide +kernel
theorem d_X1_put_68 : decode cX1_put 68 = .ok (.aload_n 0, 1) := by decide +kernel
theorem d_X1_put_69 : decode cX1_put 69 = .ok (.iload_n 2, 1) := by decide +kernel
theorem d_X1_put_70 : decode cX1_put 70 = .ok (.putfield 24, 3) := by decide +kernel
theorem d_X1_put_73 : decode cX1_put 73 = .ok (.goto 8, 3) := by decide +kernel
theorem d_X1_put_76 : decode cX1_put 76 = .ok (.aload_n 0, 1) := by decide +kernel
theorem d_X1_put_77 : decode cX1_put 77 = .ok (.iload_n 2, 1) := by decide +kernel
theorem d_X1_put_78 : decode cX1_put 78 = .ok (.putfield 27, 3) := by decide +kernel
theorem d_X1_put_81 : decode cX1_put 81 = .ok (.return_, 1) := by decide +kernel
noncomputable def P_X1_put : Nat → Op := fun pc => nd 57 pc (nd 44 pc (nd 37 pc (nd 1 pc (lf 0 pc (oILd 1 1)) (nd 36 pc (lf 1 pc (oSw [(0, 36), (1, 44), (2, 52), (3, 60), (4, 68)] 76)) (lf 36 pc (oALd 0 37)))) (nd 38 pc (lf 37 pc (oILd 2 38)) (nd 41 pc (lf 38 pc (oPutI 1 0 41)) (lf 41 pc (oGo 81))))) (nd 49 pc (nd 45 pc (lf 44 pc (oALd 0 45)) (nd 46 pc (lf 45 pc (oILd 2 46)) (lf 46 pc (oPutI 1 1 49)))) (nd 53 pc (nd 52 pc (lf 49 pc (oGo 81)) (lf 52 pc (oALd 0 53))) (nd 54 pc (lf 53 pc (oILd 2 54)) (lf 54 pc (oPutI 1 2 57)))))) (nd 69 pc (nd 62 pc (nd 60 pc (lf 57 pc (oGo 81)) (nd 61 pc (lf 60 pc (oALd 0 61)) (lf 61 pc (oILd 2 62)))) (nd 65 pc (lf 62 pc (oPutI 1 3 65)) (nd 68 pc (lf 65 pc (oGo 81)) (lf 68 pc (oALd 0 69))))) (nd 76 pc (nd 70 pc (lf 69 pc (oILd 2 70)) (nd 73 pc (lf 70 pc (oPutI 1 4 73)) (lf 73 pc (oGo 81)))) (nd 78 pc (nd 77 pc (lf 76 pc (oALd 0 77)) (lf 77 pc (oILd 2 78))) (nd 81 pc (lf 78 pc (oPutI 1 5 81)) (lf 81 pc (oVRet))))))
theorem ok_X1_put {l : Launch} {G : Gm} : ∀ pc, OkU (TXm l G (rmD 1) 3 cX1_put RX1) (RXm l G (rmD 1) 3 cX1_put RX1 none) pc (P_X1_put pc) := fun pc => ok_nd (ok_nd (ok_nd (ok_nd (ok_lf (ok_ILdn d_X1_put_0 rfl rfl)) (ok_nd (ok_lf (ok_Tab d_X1_put_1 (by decide) (by decide) (by decide) (by decide))) (ok_lf (ok_ALdn d_X1_put_36 rfl rfl)))) (ok_nd (ok_lf (ok_ILdn d_X1_put_37 rfl rfl)) (ok_nd (ok_lf (ok_PutI (by decide) (by decide) rfl rfl (by decide +kernel) d_X1_put_38 q35 rfl)) (ok_lf (ok_Go d_X1_put_41 (by decide)))))) (ok_nd (ok_nd (ok_lf (ok_ALdn d_X1_put_44 rfl rfl)) (ok_nd (ok_lf (ok_ILdn d_X1_put_45 rfl rfl)) (ok_lf (ok_PutI (by decide) (by decide) rfl rfl (by decide +kernel) d_X1_put_46 q37 rfl)))) (ok_nd (ok_nd (ok_lf (ok_Go d_X1_put_49 (by decide))) (ok_lf (ok_ALdn d_X1_put_52 rfl rfl))) (ok_nd (ok_lf (ok_ILdn d_X1_put_53 rfl rfl)) (ok_lf (ok_PutI (by decide) (by decide) rfl rfl (by decide +kernel) d_X1_put_54 q40 rfl)))))) (ok_nd (ok_nd (ok_nd (ok_lf (ok_Go d_X1_put_57 (by decide))) (ok_nd (ok_lf (ok_ALdn d_X1_put_60 rfl rfl)) (ok_lf (ok_ILdn d_X1_put_61 rfl rfl)))) (ok_nd (ok_lf (ok_PutI (by decide) (by decide) rfl rfl (by decide +kernel) d_X1_put_62 q44 rfl)) (ok_nd (ok_lf (ok_Go d_X1_put_65 (by decide))) (ok_lf (ok_ALdn d_X1_put_68 rfl rfl))))) (ok_nd (ok_nd (ok_lf (ok_ILdn d_X1_put_69 rfl rfl)) (ok_nd (ok_lf (ok_PutI (by decide) (by decide) rfl rfl (by decide +kernel) d_X1_put_70 q47 rfl)) (ok_lf (ok_Go d_X1_put_73 (by decide))))) (ok_nd (ok_nd (ok_lf (ok_ALdn d_X1_put_76 rfl rfl)) (ok_lf (ok_ILdn d_X1_put_77 rfl rfl))) (ok_nd (ok_lf (ok_PutI (by decide) (by decide) rfl rfl (by decide +kernel) d_X1_put_78 q50 rfl)) (ok_lf (ok_VRet d_X1_put_81))))))
noncomputable def S_X1_put : Sem := lockS (inl P_X1_put 28 3) 0
theorem su_X1_put {l : Launch} {G : Gm} : SemU l G yX1_put (wsOf yX1_put cX1_put 3 none) 1 S_X1_put := sem_lock (sem_inl 28 (by decide +kernel) rfl ok_X1_put)
theorem d_X1_isOne_0 : decode cX1_isOne 0 = .ok (.iload_n 1, 1) := by decide +kernel
theorem d_X1_isOne_1 : decode cX1_isOne 1 = .ok (.tableswitch 128 1 6 #[39, 62, 92, 114, 114, 114], 39) := by decide +kernel
theorem d_X1_isOne_40 : decode cX1_isOne 40 = .ok (.aload_n 0, 1) := by decide +kernel
theorem d_X1_isOne_41 : decode cX1_isOne 41 = .ok (.getfield 11, 3) := by decide +kernel
theorem d_X1_isOne_44 : decode cX1_isOne 44 = .ok (.iconst 1, 1) := by decide +kernel
theorem d_X1_isOne_45 : decode cX1_isOne 45 = .ok (.if_icmp .eq 12, 3) := by decide +kernel
theorem d_X1_isOne_48 : decode cX1_isOne 48 = .ok (.aload_n 0, 1) := by decide +kernel
theorem d_X1_isOne_49 : decode cX1_isOne 49 = .ok (.getfield 11, 3) := by decide +kernel
theorem d_X1_isOne_52 : decode cX1_isOne 52 = .ok (.bipush 6, 2) := by decide +kernel
theorem d_X1_isOne_54 : decode cX1_isOne 54 = .ok (.if_icmp .ne 7, 3) := by decide +kernel
theorem d_X1_isOne_57 : decode cX1_isOne 57 = .ok (.iconst 1, 1) := by decide +kernel
theorem d_X1_isOne_58 : decode cX1_isOne 58 = .ok (.goto 4, 3) := by decide +kernel
theorem d_X1_isOne_61 : decode cX1_isOne 61 = .ok (.iconst 0, 1) := by decide +kernel
theorem d_X1_isOne_62 : decode cX1_isOne 62 = .ok (.ireturn, 1) := by decide +kernel
theorem d_X1_isOne_63 : decode cX1_isOne 63 = .ok (.aload_n 0, 1) := by decide +kernel
theorem d_X1_isOne_64 : decode cX1_isOne 64 = .ok (.getfield 11, 3) := by decide +kernel
theorem d_X1_isOne_67 : decode cX1_isOne 67 = .ok (.iconst 2, 1) := by decide +kernel
theorem d_X1_isOne_68 : decode cX1_isOne 68 = .ok (.if_icmp .eq 19, 3) := by decide +kernel
theorem d_X1_isOne_71 : decode cX1_isOne 71 = .ok (.aload_n 0, 1) := by decide +kernel
theorem d_X1_isOne_72 : decode cX1_isOne 72 = .ok (.getfield 11, 3) := by decide +kernel
theorem d_X1_isOne_75 : decode cX1_isOne 75 = .ok (.iconst 3, 1) := by decide +kernel
theorem d_X1_isOne_76 : decode cX1_isOne 76 = .ok (.if_icmp .eq 11, 3) := by decide +kernel
theorem d_X1_isOne_79 : decode cX1_isOne 79 = .ok (.aload_n 0, 1) := by decide +kernel
theorem d_X1_isOne_80 : decode cX1_isOne 80 = .ok (.getfield 11, 3) := by decide +kernel
theorem d_X1_isOne_83 : decode cX1_isOne 83 = .ok (.iconst 4, 1) := by decide +kernel
theorem d_X1_isOne_84 : decode cX1_isOne 84 = .ok (.if_icmp .ne 7, 3) := by decide +kernel
theorem d_X1_isOne_87 : decode cX1_isOne 87 = .ok (.iconst 1, 1) := by decide +kernel
theorem d_X1_isOne_88 : decode cX1_isOne 88 = .ok (.goto 4, 3) := by decide +kernel
theorem d_X1_isOne_91 : decode cX1_isOne 91 = .ok (.iconst 0, 1) := by decide +kernel
theorem d_X1_isOne_92 : decode cX1_isOne 92 = .ok (.ireturn, 1) := by decide +kernel
theorem d_X1_isOne_93 : decode cX1_isOne 93 = .ok (.aload_n 0, 1) := by decide +kernel
theorem d_X1_isOne_94 : decode cX1_isOne 94 = .ok (.getfield 11, 3) := by decide +kernel
theorem d_X1_isOne_97 : decode cX1_isOne 97 = .ok (.iconst 3, 1) := by decide +kernel
theorem d_X1_isOne_98 : decode cX1_isOne 98 = .ok (.if_icmp .eq 11, 3) := by decide +kernel
theorem d_X1_isOne_101 : decode cX1_isOne 101 = .ok (.aload_n 0, 1) := by decide +kernel
theorem d_X1_isOne_102 : decode cX1_isOne 102 = .ok (.getfield 11, 3) := by decide +kernel
theorem d_X1_isOne_105 : decode cX1_isOne 105 = .ok (.iconst 4, 1) := by decide +kernel
theorem d_X1_isOne_106 : decode cX1_isOne 106 = .ok (.if_icmp .ne 7, 3) := by decide +kernel
theorem d_X1_isOne_109 : decode cX1_isOne 109 = .ok (.iconst 1, 1) := by decide +kernel
theorem d_X1_isOne_110 : decode cX1_isOne 110 = .ok (.goto 4, 3) := by decide +kernel
theorem d_X1_isOne_113 : decode cX1_isOne 113 = .ok (.iconst 0, 1) := by decide +kernel
theorem d_X1_isOne_114 : decode cX1_isOne 114 = .ok (.ireturn, 1) := by decide +kernel
theorem d_X1_isOne_115 : decode cX1_isOne 115 = .ok (.aload_n 0, 1) := by decide +kernel
theorem d_X1_isOne_116 : decode cX1_isOne 116 = .ok (.getfield 11, 3) := by decide +kernel
theorem d_X1_isOne_119 : decode cX1_isOne 119 = .ok (.iload_n 1, 1) := by decide +kernel
theorem d_X1_isOne_120 : decode cX1_isOne 120 = .ok (.if_icmp .ne 7, 3) := by decide +kernel
theorem d_X1_isOne_123 : decode cX1_isOne 123 = .ok (.iconst 1, 1) := by decide +kernel
theorem d_X1_isOne_124 : decode cX1_isOne 124 = .ok (.goto 4, 3) := by decide +kernel
theorem d_X1_isOne_127 : decode cX1_isOne 127 = .ok (.iconst 0, 1) := by decide +kernel
theorem d_X1_isOne_128 : decode cX1_isOne 128 = .ok (.ireturn, 1) := by decide +kernel
theorem d_X1_isOne_129 : decode cX1_isOne 129 = .ok (.iconst 1, 1) := by decide +kernel
theorem d_X1_isOne_130 : decode cX1_isOne 130 = .ok (.ireturn, 1) := by decide +kernel
noncomputable def P_X1_isOne : Nat → Op := fun pc => nd 87 pc (nd 62 pc (nd 48 pc (nd 41 pc (nd 1 pc (lf 0 pc (oILd 1 1)) (nd 40 pc (lf 1 pc (oSw [(1, 40), (2, 63), (3, 93), (4, 115), (5, 115), (6, 115)] 129)) (lf 40 pc (oALd 0 41)))) (nd 44 pc (lf 41 pc (oGetI 1 0 44)) (nd 45 pc (lf 44 pc (oCst 1 45)) (lf 45 pc (oCpEq 57 48))))) (nd 54 pc (nd 49 pc (lf 48 pc (oALd 0 49)) (nd 52 pc (lf 49 pc (oGetI 1 0 52)) (lf 52 pc (oCst 6 54)))) (nd 58 pc (nd 57 pc (lf 54 pc (oCpEq 57 61)) (lf 57 pc (oCst 1 58))) (nd 61 pc (lf 58 pc (oGo 62)) (lf 61 pc (oCst 0 62)))))) (nd 72 pc (nd 67 pc (nd 63 pc (lf 62 pc (oZRet)) (nd 64 pc (lf 63 pc (oALd 0 64)) (lf 64 pc (oGetI 1 0 67)))) (nd 68 pc (lf 67 pc (oCst 2 68)) (nd 71 pc (lf 68 pc (oCpEq 87 71)) (lf 71 pc (oALd 0 72))))) (nd 79 pc (nd 75 pc (lf 72 pc (oGetI 1 0 75)) (nd 76 pc (lf 75 pc (oCst 3 76)) (lf 76 pc (oCpEq 87 79)))) (nd 83 pc (nd 80 pc (lf 79 pc (oALd 0 80)) (lf 80 pc (oGetI 1 0 83))) (nd 84 pc (lf 83 pc (oCst 4 84)) (lf 84 pc (oCpEq 87 91))))))) (nd 110 pc (nd 97 pc (nd 92 pc (nd 88 pc (lf 87 pc (oCst 1 88)) (nd 91 pc (lf 88 pc (oGo 92)) (lf 91 pc (oCst 0 92)))) (nd 93 pc (lf 92 pc (oZRet)) (nd 94 pc (lf 93 pc (oALd 0 94)) (lf 94 pc (oGetI 1 0 97))))) (nd 102 pc (nd 98 pc (lf 97 pc (oCst 3 98)) (nd 101 pc (lf 98 pc (oCpEq 109 101)) (lf 101 pc (oALd 0 102)))) (nd 106 pc (nd 105 pc (lf 102 pc (oGetI 1 0 105)) (lf 105 pc (oCst 4 106))) (nd 109 pc (lf 106 pc (oCpEq 109 113)) (lf 109 pc (oCst 1 110)))))) (nd 120 pc (nd 115 pc (nd 113 pc (lf 110 pc (oGo 114)) (nd 114 pc (lf 113 pc (oCst 0 114)) (lf 114 pc (oZRet)))) (nd 116 pc (lf 115 pc (oALd 0 116)) (nd 119 pc (lf 116 pc (oGetI 1 0 119)) (lf 119 pc (oILd 1 120))))) (nd 127 pc (nd 123 pc (lf 120 pc (oCpEq 123 127)) (nd 124 pc (lf 123 pc (oCst 1 124)) (lf 124 pc (oGo 128)))) (nd 129 pc (nd 128 pc (lf 127 pc (oCst 0 128)) (lf 128 pc (oZRet))) (nd 130 pc (lf 129 pc (oCst 1 130)) (lf 130 pc (oZRet)))))))
theorem ok_X1_isOne {l : Launch} {G : Gm} : ∀ pc, OkU (TXm l G (rmD 1) 2 cX1_isOne RX1) (RXm l G (rmD 1) 2 cX1_isOne RX1 (some .boolean)) pc (P_X1_isOne pc) := fun pc => ok_nd (ok_nd (ok_nd (ok_nd (ok_nd (ok_lf (ok_ILdn d_X1_isOne_0 rfl rfl)) (ok_nd (ok_lf (ok_Tab d_X1_isOne_1 (by decide) (by decide) (by decide) (by decide))) (ok_lf (ok_ALdn d_X1_isOne_40 rfl rfl)))) (ok_nd (ok_lf (ok_GetI (by decide) (by decide) rfl d_X1_isOne_41 q35 rfl)) (ok_nd (ok_lf (ok_ICst d_X1_isOne_44 (by decide) rfl)) (ok_lf (ok_CpEq d_X1_isOne_45 (by decide) rfl))))) (ok_nd (ok_nd (ok_lf (ok_ALdn d_X1_isOne_48 rfl rfl)) (ok_nd (ok_lf (ok_GetI (by decide) (by decide) rfl d_X1_isOne_49 q35 rfl)) (ok_lf (ok_BCst d_X1_isOne_52 (by decide) rfl)))) (ok_nd (ok_nd (ok_lf (ok_CpNe d_X1_isOne_54 (by decide) rfl)) (ok_lf (ok_ICst d_X1_isOne_57 (by decide) rfl))) (ok_nd (ok_lf (ok_Go d_X1_isOne_58 (by decide))) (ok_lf (ok_ICst d_X1_isOne_61 (by decide) rfl)))))) (ok_nd (ok_nd (ok_nd (ok_lf (ok_ZRet d_X1_isOne_62)) (ok_nd (ok_lf (ok_ALdn d_X1_isOne_63 rfl rfl)) (ok_lf (ok_GetI (by decide) (by decide) rfl d_X1_isOne_64 q35 rfl)))) (ok_nd (ok_lf (ok_ICst d_X1_isOne_67 (by decide) rfl)) (ok_nd (ok_lf (ok_CpEq d_X1_isOne_68 (by decide) rfl)) (ok_lf (ok_ALdn d_X1_isOne_71 rfl rfl))))) (ok_nd (ok_nd (ok_lf (ok_GetI (by decide) (by decide) rfl d_X1_isOne_72 q35 rfl)) (ok_nd (ok_lf (ok_ICst d_X1_isOne_75 (by decide) rfl)) (ok_lf (ok_CpEq d_X1_isOne_76 (by decide) rfl)))) (ok_nd (ok_nd (ok_lf (ok_ALdn d_X1_isOne_79 rfl rfl)) (ok_lf (ok_GetI (by decide) (by decide) rfl d_X1_isOne_80 q35 rfl))) (ok_nd (ok_lf (ok_ICst d_X1_isOne_83 (by decide) rfl)) (ok_lf (ok_CpNe d_X1_isOne_84 (by decide) rfl))))))) (ok_nd (ok_nd (ok_nd (ok_nd (ok_lf (ok_ICst d_X1_isOne_87 (by decide) rfl)) (ok_nd (ok_lf (ok_Go d_X1_isOne_88 (by decide))) (ok_lf (ok_ICst d_X1_isOne_91 (by decide) rfl)))) (ok_nd (ok_lf (ok_ZRet d_X1_isOne_92)) (ok_nd (ok_lf (ok_ALdn d_X1_isOne_93 rfl rfl)) (ok_lf (ok_GetI (by decide) (by decide) rfl d_X1_isOne_94 q35 rfl))))) (ok_nd (ok_nd (ok_lf (ok_ICst d_X1_isOne_97 (by decide) rfl)) (ok_nd (ok_lf (ok_CpEq d_X1_isOne_98 (by decide) rfl)) (ok_lf (ok_ALdn d_X1_isOne_101 rfl rfl)))) (ok_nd (ok_nd (ok_lf (ok_GetI (by decide) (by decide) rfl d_X1_isOne_102 q35 rfl)) (ok_lf (ok_ICst d_X1_isOne_105 (by decide) rfl))) (ok_nd (ok_lf (ok_CpNe d_X1_isOne_106 (by decide) rfl)) (ok_lf (ok_ICst d_X1_isOne_109 (by decide) rfl)))))) (ok_nd (ok_nd (ok_nd (ok_lf (ok_Go d_X1_isOne_110 (by decide))) (ok_nd (ok_lf (ok_ICst d_X1_isOne_113 (by decide) rfl)) (ok_lf (ok_ZRet d_X1_isOne_114)))) (ok_nd (ok_lf (ok_ALdn d_X1_isOne_115 rfl rfl)) (ok_nd (ok_lf (ok_GetI (by decide) (by decide) rfl d_X1_isOne_116 q35 rfl)) (ok_lf (ok_ILdn d_X1_isOne_119 rfl rfl))))) (ok_nd (ok_nd (ok_lf (ok_CpNe d_X1_isOne_120 (by decide) rfl)) (ok_nd (ok_lf (ok_ICst d_X1_isOne_123 (by decide) rfl)) (ok_lf (ok_Go d_X1_isOne_124 (by decide))))) (ok_nd (ok_nd (ok_lf (ok_ICst d_X1_isOne_127 (by decide) rfl)) (ok_lf (ok_ZRet d_X1_isOne_128))) (ok_nd (ok_lf (ok_ICst d_X1_isOne_129 (by decide) rfl)) (ok_lf (ok_ZRet d_X1_isOne_130)))))))
noncomputable def S_X1_isOne : Sem := inl P_X1_isOne 54 2
theorem su_X1_isOne {l : Launch} {G : Gm} : SemU l G yX1_isOne (wsOf yX1_isOne cX1_isOne 2 (some .boolean)) 1 S_X1_isOne := sem_inl 54 (by decide +kernel) rfl ok_X1_isOne
theorem d_X1_isFoundRight_0 : decode cX1_isFoundRight 0 = .ok (.aload_n 0, 1) := by decide +kernel
theorem d_X1_isFoundRight_1 : decode cX1_isFoundRight 1 = .ok (.aload_n 0, 1) := by decide +kernel
theorem d_X1_isFoundRight_2 : decode cX1_isFoundRight 2 = .ok (.getfield 24, 3) := by decide +kernel
theorem d_X1_isFoundRight_5 : decode cX1_isFoundRight 5 = .ok (.iconst 1, 1) := by decide +kernel
theorem d_X1_isFoundRight_6 : decode cX1_isFoundRight 6 = .ok (.iadd, 1) := by decide +kernel
theorem d_X1_isFoundRight_7 : decode cX1_isFoundRight 7 = .ok (.sipush 9999, 3) := by decide +kernel
theorem d_X1_isFoundRight_10 : decode cX1_isFoundRight 10 = .ok (.invokestatic 56, 3) := by decide +kernel
theorem d_X1_isFoundRight_13 : decode cX1_isFoundRight 13 = .ok (.putfield 24, 3) := by decide +kernel
theorem d_X1_isFoundRight_16 : decode cX1_isFoundRight 16 = .ok (.return_, 1) := by decide +kernel
noncomputable def P_X1_isFoundRight : Nat → Op := fun pc => nd 6 pc (nd 2 pc (nd 1 pc (lf 0 pc (oALd 0 1)) (lf 1 pc (oALd 0 2))) (nd 5 pc (lf 2 pc (oGetI 1 4 5)) (lf 5 pc (oCst 1 6)))) (nd 10 pc (nd 7 pc (lf 6 pc (oBin (fun x y => x + y) 7)) (lf 7 pc (oCst 9999 10))) (nd 13 pc (lf 10 pc (oMin 13)) (nd 16 pc (lf 13 pc (oPutI 1 4 16)) (lf 16 pc (oVRet)))))
theorem ok_X1_isFoundRight {l : Launch} {G : Gm} : ∀ pc, OkU (TXm l G (rmD 1) 1 cX1_isFoundRight RX1) (RXm l G (rmD 1) 1 cX1_isFoundRight RX1 none) pc (P_X1_isFoundRight pc) := fun pc => ok_nd (ok_nd (ok_nd (ok_lf (ok_ALdn d_X1_isFoundRight_0 rfl rfl)) (ok_lf (ok_ALdn d_X1_isFoundRight_1 rfl rfl))) (ok_nd (ok_lf (ok_GetI (by decide) (by decide) rfl d_X1_isFoundRight_2 q47 rfl)) (ok_lf (ok_ICst d_X1_isFoundRight_5 (by decide) rfl)))) (ok_nd (ok_nd (ok_lf (ok_iadd d_X1_isFoundRight_6 rfl)) (ok_lf (ok_SCst d_X1_isFoundRight_7 (by decide) rfl))) (ok_nd (ok_lf (ok_Min d_X1_isFoundRight_10 q246 q247 q7 q248 ⟨by decide, by decide⟩ rfl)) (ok_nd (ok_lf (ok_PutI (by decide) (by decide) rfl rfl (by decide +kernel) d_X1_isFoundRight_13 q47 rfl)) (ok_lf (ok_VRet d_X1_isFoundRight_16)))))
noncomputable def S_X1_isFoundRight : Sem := lockS (inl P_X1_isFoundRight 11 1) 0
theorem su_X1_isFoundRight {l : Launch} {G : Gm} : SemU l G yX1_isFoundRight (wsOf yX1_isFoundRight cX1_isFoundRight 1 none) 1 S_X1_isFoundRight := sem_lock (sem_inl 11 (by decide +kernel) rfl ok_X1_isFoundRight)
theorem d_X1_isFoundWrong_0 : decode cX1_isFoundWrong 0 = .ok (.aload_n 0, 1) := by decide +kernel
theorem d_X1_isFoundWrong_1 : decode cX1_isFoundWrong 1 = .ok (.aload_n 0, 1) := by decide +kernel
theorem d_X1_isFoundWrong_2 : decode cX1_isFoundWrong 2 = .ok (.getfield 21, 3) := by decide +kernel
theorem d_X1_isFoundWrong_5 : decode cX1_isFoundWrong 5 = .ok (.iconst 1, 1) := by decide +kernel
theorem d_X1_isFoundWrong_6 : decode cX1_isFoundWrong 6 = .ok (.iadd, 1) := by decide +kernel
theorem d_X1_isFoundWrong_7 : decode cX1_isFoundWrong 7 = .ok (.sipush 9999, 3) := by decide +kernel
theorem d_X1_isFoundWrong_10 : decode cX1_isFoundWrong 10 = .ok (.invokestatic 56, 3) := by decide +kernel
theorem d_X1_isFoundWrong_13 : decode cX1_isFoundWrong 13 = .ok (.putfield 21, 3) := by decide +kernel
theorem d_X1_isFoundWrong_16 : decode cX1_isFoundWrong 16 = .ok (.aload_n 0, 1) := by decide +kernel
theorem d_X1_isFoundWrong_17 : decode cX1_isFoundWrong 17 = .ok (.aload_n 0, 1) := by decide +kernel
theorem d_X1_isFoundWrong_18 : decode cX1_isFoundWrong 18 = .ok (.getfield 18, 3) := by decide +kernel
theorem d_X1_isFoundWrong_21 : decode cX1_isFoundWrong 21 = .ok (.aload_n 0, 1) := by decide +kernel
theorem d_X1_isFoundWrong_22 : decode cX1_isFoundWrong 22 = .ok (.invokevirtual 37, 3) := by decide +kernel
theorem d_X1_isFoundWrong_25 : decode cX1_isFoundWrong 25 = .ok (.iadd, 1) := by decide +kernel
theorem d_X1_isFoundWrong_26 : decode cX1_isFoundWrong 26 = .ok (.bipush 99, 2) := by decide +kernel
theorem d_X1_isFoundWrong_28 : decode cX1_isFoundWrong 28 = .ok (.invokestatic 56, 3) := by decide +kernel
theorem d_X1_isFoundWrong_31 : decode cX1_isFoundWrong 31 = .ok (.putfield 18, 3) := by decide +kernel
theorem d_X1_isFoundWrong_34 : decode cX1_isFoundWrong 34 = .ok (.aload_n 0, 1) := by decide +kernel
theorem d_X1_isFoundWrong_35 : decode cX1_isFoundWrong 35 = .ok (.aload_n 0, 1) := by decide +kernel
theorem d_X1_isFoundWrong_36 : decode cX1_isFoundWrong 36 = .ok (.getfield 15, 3) := by decide +kernel
theorem d_X1_isFoundWrong_39 : decode cX1_isFoundWrong 39 = .ok (.aload_n 0, 1) := by decide +kernel
theorem d_X1_isFoundWrong_40 : decode cX1_isFoundWrong 40 = .ok (.invokevirtual 41, 3) := by decide +kernel
theorem d_X1_isFoundWrong_43 : decode cX1_isFoundWrong 43 = .ok (.iadd, 1) := by decide +kernel
theorem d_X1_isFoundWrong_44 : decode cX1_isFoundWrong 44 = .ok (.bipush 99, 2) := by decide +kernel
theorem d_X1_isFoundWrong_46 : decode cX1_isFoundWrong 46 = .ok (.invokestatic 56, 3) := by decide +kernel
theorem d_X1_isFoundWrong_49 : decode cX1_isFoundWrong 49 = .ok (.putfield 15, 3) := by decide +kernel
theorem d_X1_isFoundWrong_52 : decode cX1_isFoundWrong 52 = .ok (.return_, 1) := by decide +kernel
noncomputable def P_X1_isFoundWrong : Nat → Op := fun pc => nd 25 pc (nd 10 pc (nd 5 pc (nd 1 pc (lf 0 pc (oALd 0 1)) (nd 2 pc (lf 1 pc (oALd 0 2)) (lf 2 pc (oGetI 1 3 5)))) (nd 6 pc (lf 5 pc (oCst 1 6)) (nd 7 pc (lf 6 pc (oBin (fun x y => x + y) 7)) (lf 7 pc (oCst 9999 10))))) (nd 17 pc (nd 13 pc (lf 10 pc (oMin 13)) (nd 16 pc (lf 13 pc (oPutI 1 3 16)) (lf 16 pc (oALd 0 17)))) (nd 21 pc (nd 18 pc (lf 17 pc (oALd 0 18)) (lf 18 pc (oGetI 1 2 21))) (nd 22 pc (lf 21 pc (oALd 0 22)) (lf 22 pc (oCaV 1 1 S_X1_grows 25)))))) (nd 39 pc (nd 31 pc (nd 26 pc (lf 25 pc (oBin (fun x y => x + y) 26)) (nd 28 pc (lf 26 pc (oCst 99 28)) (lf 28 pc (oMin 31)))) (nd 35 pc (nd 34 pc (lf 31 pc (oPutI 1 2 34)) (lf 34 pc (oALd 0 35))) (nd 36 pc (lf 35 pc (oALd 0 36)) (lf 36 pc (oGetI 1 1 39))))) (nd 44 pc (nd 40 pc (lf 39 pc (oALd 0 40)) (nd 43 pc (lf 40 pc (oCaV 1 1 S_X1_learns 43)) (lf 43 pc (oBin (fun x y => x + y) 44)))) (nd 49 pc (nd 46 pc (lf 44 pc (oCst 99 46)) (lf 46 pc (oMin 49))) (nd 52 pc (lf 49 pc (oPutI 1 1 52)) (lf 52 pc (oVRet))))))
theorem ok_X1_isFoundWrong {l : Launch} {G : Gm} : ∀ pc, OkU (TXm l G (rmD 2) 1 cX1_isFoundWrong RX1) (RXm l G (rmD 2) 1 cX1_isFoundWrong RX1 none) pc (P_X1_isFoundWrong pc) := fun pc => ok_nd (ok_nd (ok_nd (ok_nd (ok_lf (ok_ALdn d_X1_isFoundWrong_0 rfl rfl)) (ok_nd (ok_lf (ok_ALdn d_X1_isFoundWrong_1 rfl rfl)) (ok_lf (ok_GetI (by decide) (by decide) rfl d_X1_isFoundWrong_2 q44 rfl)))) (ok_nd (ok_lf (ok_ICst d_X1_isFoundWrong_5 (by decide) rfl)) (ok_nd (ok_lf (ok_iadd d_X1_isFoundWrong_6 rfl)) (ok_lf (ok_SCst d_X1_isFoundWrong_7 (by decide) rfl))))) (ok_nd (ok_nd (ok_lf (ok_Min d_X1_isFoundWrong_10 q246 q247 q7 q248 ⟨by decide, by decide⟩ rfl)) (ok_nd (ok_lf (ok_PutI (by decide) (by decide) rfl rfl (by decide +kernel) d_X1_isFoundWrong_13 q44 rfl)) (ok_lf (ok_ALdn d_X1_isFoundWrong_16 rfl rfl)))) (ok_nd (ok_nd (ok_lf (ok_ALdn d_X1_isFoundWrong_17 rfl rfl)) (ok_lf (ok_GetI (by decide) (by decide) rfl d_X1_isFoundWrong_18 q40 rfl))) (ok_nd (ok_lf (ok_ALdn d_X1_isFoundWrong_21 rfl rfl)) (ok_lf (ok_CaV su_X1_grows (by decide) rfl d_X1_isFoundWrong_22 q253 q255 z9 q3 q256 ⟨by decide +kernel, by decide +kernel, by decide +kernel⟩ ⟨by decide, by decide⟩ rfl)))))) (ok_nd (ok_nd (ok_nd (ok_lf (ok_iadd d_X1_isFoundWrong_25 rfl)) (ok_nd (ok_lf (ok_BCst d_X1_isFoundWrong_26 (by decide) rfl)) (ok_lf (ok_Min d_X1_isFoundWrong_28 q246 q247 q7 q248 ⟨by decide, by decide⟩ rfl)))) (ok_nd (ok_nd (ok_lf (ok_PutI (by decide) (by decide) rfl rfl (by decide +kernel) d_X1_isFoundWrong_31 q40 rfl)) (ok_lf (ok_ALdn d_X1_isFoundWrong_34 rfl rfl))) (ok_nd (ok_lf (ok_ALdn d_X1_isFoundWrong_35 rfl rfl)) (ok_lf (ok_GetI (by decide) (by decide) rfl d_X1_isFoundWrong_36 q37 rfl))))) (ok_nd (ok_nd (ok_lf (ok_ALdn d_X1_isFoundWrong_39 rfl rfl)) (ok_nd (ok_lf (ok_CaV su_X1_learns (by decide) rfl d_X1_isFoundWrong_40 q257 q259 z10 q3 q260 ⟨by decide +kernel, by decide +kernel, by decide +kernel⟩ ⟨by decide, by decide⟩ rfl)) (ok_lf (ok_iadd d_X1_isFoundWrong_43 rfl)))) (ok_nd (ok_nd (ok_lf (ok_BCst d_X1_isFoundWrong_44 (by decide) rfl)) (ok_lf (ok_Min d_X1_isFoundWrong_46 q246 q247 q7 q248 ⟨by decide, by decide⟩ rfl))) (ok_nd (ok_lf (ok_PutI (by decide) (by decide) rfl rfl (by decide +kernel) d_X1_isFoundWrong_49 q37 rfl)) (ok_lf (ok_VRet d_X1_isFoundWrong_52))))))
noncomputable def S_X1_isFoundWrong : Sem := lockS (inl P_X1_isFoundWrong 29 1) 0
theorem su_X1_isFoundWrong {l : Launch} {G : Gm} : SemU l G yX1_isFoundWrong (wsOf yX1_isFoundWrong cX1_isFoundWrong 1 none) 2 S_X1_isFoundWrong := sem_lock (sem_inl 29 (by decide +kernel) rfl ok_X1_isFoundWrong)
theorem d_X1_coolDown_0 : decode cX1_coolDown 0 = .ok (.aload_n 0, 1) := by decide +kernel
theorem d_X1_coolDown_1 : decode cX1_coolDown 1 = .ok (.aload_n 0, 1) := by decide +kernel
theorem d_X1_coolDown_2 : decode cX1_coolDown 2 = .ok (.getfield 18, 3) := by decide +kernel
theorem d_X1_coolDown_5 : decode cX1_coolDown 5 = .ok (.aload_n 0, 1) := by decide +kernel
theorem d_X1_coolDown_6 : decode cX1_coolDown 6 = .ok (.invokevirtual 44, 3) := by decide +kernel
theorem d_X1_coolDown_9 : decode cX1_coolDown 9 = .ok (.isub, 1) := by decide +kernel
theorem d_X1_coolDown_10 : decode cX1_coolDown 10 = .ok (.iconst 0, 1) := by decide +kernel
theorem d_X1_coolDown_11 : decode cX1_coolDown 11 = .ok (.invokestatic 47, 3) := by decide +kernel
theorem d_X1_coolDown_14 : decode cX1_coolDown 14 = .ok (.putfield 18, 3) := by decide +kernel
theorem d_X1_coolDown_17 : decode cX1_coolDown 17 = .ok (.return_, 1) := by decide +kernel
noncomputable def P_X1_coolDown : Nat → Op := fun pc => nd 9 pc (nd 2 pc (nd 1 pc (lf 0 pc (oALd 0 1)) (lf 1 pc (oALd 0 2))) (nd 5 pc (lf 2 pc (oGetI 1 2 5)) (nd 6 pc (lf 5 pc (oALd 0 6)) (lf 6 pc (oCaV 1 1 S_X1_cools 9))))) (nd 11 pc (nd 10 pc (lf 9 pc (oBin (fun x y => x - y) 10)) (lf 10 pc (oCst 0 11))) (nd 14 pc (lf 11 pc (oMax 14)) (nd 17 pc (lf 14 pc (oPutI 1 2 17)) (lf 17 pc (oVRet)))))
theorem ok_X1_coolDown {l : Launch} {G : Gm} : ∀ pc, OkU (TXm l G (rmD 2) 1 cX1_coolDown RX1) (RXm l G (rmD 2) 1 cX1_coolDown RX1 none) pc (P_X1_coolDown pc) := fun pc => ok_nd (ok_nd (ok_nd (ok_lf (ok_ALdn d_X1_coolDown_0 rfl rfl)) (ok_lf (ok_ALdn d_X1_coolDown_1 rfl rfl))) (ok_nd (ok_lf (ok_GetI (by decide) (by decide) rfl d_X1_coolDown_2 q40 rfl)) (ok_nd (ok_lf (ok_ALdn d_X1_coolDown_5 rfl rfl)) (ok_lf (ok_CaV su_X1_cools (by decide) rfl d_X1_coolDown_6 q261 q263 z11 q3 q264 ⟨by decide +kernel, by decide +kernel, by decide +kernel⟩ ⟨by decide, by decide⟩ rfl))))) (ok_nd (ok_nd (ok_lf (ok_isub d_X1_coolDown_9 rfl)) (ok_lf (ok_ICst d_X1_coolDown_10 (by decide) rfl))) (ok_nd (ok_lf (ok_Max d_X1_coolDown_11 q239 q240 q7 q241 ⟨by decide, by decide⟩ rfl)) (ok_nd (ok_lf (ok_PutI (by decide) (by decide) rfl rfl (by decide +kernel) d_X1_coolDown_14 q40 rfl)) (ok_lf (ok_VRet d_X1_coolDown_17)))))
noncomputable def S_X1_coolDown : Sem := lockS (inl P_X1_coolDown 12 1) 0
theorem su_X1_coolDown {l : Launch} {G : Gm} : SemU l G yX1_coolDown (wsOf yX1_coolDown cX1_coolDown 1 none) 2 S_X1_coolDown := sem_lock (sem_inl 12 (by decide +kernel) rfl ok_X1_coolDown)
theorem d_X1_tells_0 : decode cX1_tells 0 = .ok (.iload_n 1, 1) := by decide +kernel
theorem d_X1_tells_1 : decode cX1_tells 1 = .ok (.tableswitch 107 0 9 #[55, 60, 65, 70, 75, 80, 85, 91, 97, 102], 55) := by decide +kernel
theorem d_X1_tells_56 : decode cX1_tells 56 = .ok (.aload_n 0, 1) := by decide +kernel
theorem d_X1_tells_57 : decode cX1_tells 57 = .ok (.getfield 11, 3) := by decide +kernel
theorem d_X1_tells_60 : decode cX1_tells 60 = .ok (.ireturn, 1) := by decide +kernel
theorem d_X1_tells_61 : decode cX1_tells 61 = .ok (.aload_n 0, 1) := by decide +kernel
theorem d_X1_tells_62 : decode cX1_tells 62 = .ok (.getfield 15, 3) := by decide +kernel
theorem d_X1_tells_65 : decode cX1_tells 65 = .ok (.ireturn, 1) := by decide +kernel
theorem d_X1_tells_66 : decode cX1_tells 66 = .ok (.aload_n 0, 1) := by decide +kernel
theorem d_X1_tells_67 : decode cX1_tells 67 = .ok (.getfield 18, 3) := by decide +kernel
theorem d_X1_tells_70 : decode cX1_tells 70 = .ok (.ireturn, 1) := by decide +kernel
theorem d_X1_tells_71 : decode cX1_tells 71 = .ok (.aload_n 0, 1) := by decide +kernel
theorem d_X1_tells_72 : decode cX1_tells 72 = .ok (.getfield 21, 3) := by decide +kernel
theorem d_X1_tells_75 : decode cX1_tells 75 = .ok (.ireturn, 1) := by decide +kernel
theorem d_X1_tells_76 : decode cX1_tells 76 = .ok (.aload_n 0, 1) := by decide +kernel
theorem d_X1_tells_77 : decode cX1_tells 77 = .ok (.getfield 24, 3) := by decide +kernel
theorem d_X1_tells_80 : decode cX1_tells 80 = .ok (.ireturn, 1) := by decide +kernel
theorem d_X1_tells_81 : decode cX1_tells 81 = .ok (.aload_n 0, 1) := by decide +kernel
theorem d_X1_tells_82 : decode cX1_tells 82 = .ok (.getfield 27, 3) := by decide +kernel
theorem d_X1_tells_85 : decode cX1_tells 85 = .ok (.ireturn, 1) := by decide +kernel
theorem d_X1_tells_86 : decode cX1_tells 86 = .ok (.aload_n 0, 1) := by decide +kernel
theorem d_X1_tells_87 : decode cX1_tells 87 = .ok (.iload_n 2, 1) := by decide +kernel
theorem d_X1_tells_88 : decode cX1_tells 88 = .ok (.invokevirtual 30, 3) := by decide +kernel
theorem d_X1_tells_91 : decode cX1_tells 91 = .ok (.ireturn, 1) := by decide +kernel
theorem d_X1_tells_92 : decode cX1_tells 92 = .ok (.aload_n 0, 1) := by decide +kernel
theorem d_X1_tells_93 : decode cX1_tells 93 = .ok (.iload_n 3, 1) := by decide +kernel
theorem d_X1_tells_94 : decode cX1_tells 94 = .ok (.invokevirtual 34, 3) := by decide +kernel
theorem d_X1_tells_97 : decode cX1_tells 97 = .ok (.ireturn, 1) := by decide +kernel
theorem d_X1_tells_98 : decode cX1_tells 98 = .ok (.aload_n 0, 1) := by decide +kernel
theorem d_X1_tells_99 : decode cX1_tells 99 = .ok (.invokevirtual 37, 3) := by decide +kernel
theorem d_X1_tells_102 : decode cX1_tells 102 = .ok (.ireturn, 1) := by decide +kernel
theorem d_X1_tells_103 : decode cX1_tells 103 = .ok (.aload_n 0, 1) := by decide +kernel
theorem d_X1_tells_104 : decode cX1_tells 104 = .ok (.invokevirtual 41, 3) := by decide +kernel
theorem d_X1_tells_107 : decode cX1_tells 107 = .ok (.ireturn, 1) := by decide +kernel
theorem d_X1_tells_108 : decode cX1_tells 108 = .ok (.aload_n 0, 1) := by decide +kernel
theorem d_X1_tells_109 : decode cX1_tells 109 = .ok (.invokevirtual 44, 3) := by decide +kernel
theorem d_X1_tells_112 : decode cX1_tells 112 = .ok (.ireturn, 1) := by decide +kernel
noncomputable def P_X1_tells : Nat → Op := fun pc => nd 82 pc (nd 67 pc (nd 60 pc (nd 56 pc (nd 1 pc (lf 0 pc (oILd 1 1)) (lf 1 pc (oSw [(0, 56), (1, 61), (2, 66), (3, 71), (4, 76), (5, 81), (6, 86), (7, 92), (8, 98), (9, 103)] 108))) (nd 57 pc (lf 56 pc (oALd 0 57)) (lf 57 pc (oGetI 1 0 60)))) (nd 62 pc (nd 61 pc (lf 60 pc (oIRet)) (lf 61 pc (oALd 0 62))) (nd 65 pc (lf 62 pc (oGetI 1 1 65)) (nd 66 pc (lf 65 pc (oIRet)) (lf 66 pc (oALd 0 67)))))) (nd 75 pc (nd 71 pc (nd 70 pc (lf 67 pc (oGetI 1 2 70)) (lf 70 pc (oIRet))) (nd 72 pc (lf 71 pc (oALd 0 72)) (lf 72 pc (oGetI 1 3 75)))) (nd 77 pc (nd 76 pc (lf 75 pc (oIRet)) (lf 76 pc (oALd 0 77))) (nd 80 pc (lf 77 pc (oGetI 1 4 80)) (nd 81 pc (lf 80 pc (oIRet)) (lf 81 pc (oALd 0 82))))))) (nd 97 pc (nd 88 pc (nd 86 pc (nd 85 pc (lf 82 pc (oGetI 1 5 85)) (lf 85 pc (oIRet))) (nd 87 pc (lf 86 pc (oALd 0 87)) (lf 87 pc (oILd 2 88)))) (nd 92 pc (nd 91 pc (lf 88 pc (oCaV 2 1 S_X1_presses 91)) (lf 91 pc (oIRet))) (nd 93 pc (lf 92 pc (oALd 0 93)) (nd 94 pc (lf 93 pc (oILd 3 94)) (lf 94 pc (oCaV 2 1 S_X1_jolts 97)))))) (nd 104 pc (nd 99 pc (nd 98 pc (lf 97 pc (oIRet)) (lf 98 pc (oALd 0 99))) (nd 102 pc (lf 99 pc (oCaV 1 1 S_X1_grows 102)) (nd 103 pc (lf 102 pc (oIRet)) (lf 103 pc (oALd 0 104))))) (nd 108 pc (nd 107 pc (lf 104 pc (oCaV 1 1 S_X1_learns 107)) (lf 107 pc (oIRet))) (nd 109 pc (lf 108 pc (oALd 0 109)) (nd 112 pc (lf 109 pc (oCaV 1 1 S_X1_cools 112)) (lf 112 pc (oIRet)))))))
theorem ok_X1_tells {l : Launch} {G : Gm} : ∀ pc, OkU (TXm l G (rmD 3) 4 cX1_tells RX1) (RXm l G (rmD 3) 4 cX1_tells RX1 (some .int)) pc (P_X1_tells pc) := fun pc => ok_nd (ok_nd (ok_nd (ok_nd (ok_nd (ok_lf (ok_ILdn d_X1_tells_0 rfl rfl)) (ok_lf (ok_Tab d_X1_tells_1 (by decide) (by decide) (by decide) (by decide)))) (ok_nd (ok_lf (ok_ALdn d_X1_tells_56 rfl rfl)) (ok_lf (ok_GetI (by decide) (by decide) rfl d_X1_tells_57 q35 rfl)))) (ok_nd (ok_nd (ok_lf (ok_IRet d_X1_tells_60)) (ok_lf (ok_ALdn d_X1_tells_61 rfl rfl))) (ok_nd (ok_lf (ok_GetI (by decide) (by decide) rfl d_X1_tells_62 q37 rfl)) (ok_nd (ok_lf (ok_IRet d_X1_tells_65)) (ok_lf (ok_ALdn d_X1_tells_66 rfl rfl)))))) (ok_nd (ok_nd (ok_nd (ok_lf (ok_GetI (by decide) (by decide) rfl d_X1_tells_67 q40 rfl)) (ok_lf (ok_IRet d_X1_tells_70))) (ok_nd (ok_lf (ok_ALdn d_X1_tells_71 rfl rfl)) (ok_lf (ok_GetI (by decide) (by decide) rfl d_X1_tells_72 q44 rfl)))) (ok_nd (ok_nd (ok_lf (ok_IRet d_X1_tells_75)) (ok_lf (ok_ALdn d_X1_tells_76 rfl rfl))) (ok_nd (ok_lf (ok_GetI (by decide) (by decide) rfl d_X1_tells_77 q47 rfl)) (ok_nd (ok_lf (ok_IRet d_X1_tells_80)) (ok_lf (ok_ALdn d_X1_tells_81 rfl rfl))))))) (ok_nd (ok_nd (ok_nd (ok_nd (ok_lf (ok_GetI (by decide) (by decide) rfl d_X1_tells_82 q50 rfl)) (ok_lf (ok_IRet d_X1_tells_85))) (ok_nd (ok_lf (ok_ALdn d_X1_tells_86 rfl rfl)) (ok_lf (ok_ILdn d_X1_tells_87 rfl rfl)))) (ok_nd (ok_nd (ok_lf (ok_CaV su_X1_presses (by decide) rfl d_X1_tells_88 q235 q237 z6 q3 q238 ⟨by decide +kernel, by decide +kernel, by decide +kernel⟩ ⟨by decide, by decide⟩ rfl)) (ok_lf (ok_IRet d_X1_tells_91))) (ok_nd (ok_lf (ok_ALdn d_X1_tells_92 rfl rfl)) (ok_nd (ok_lf (ok_ILdn d_X1_tells_93 rfl rfl)) (ok_lf (ok_CaV su_X1_jolts (by decide) rfl d_X1_tells_94 q249 q251 z8 q3 q252 ⟨by decide +kernel, by decide +kernel, by decide +kernel⟩ ⟨by decide, by decide⟩ rfl)))))) (ok_nd (ok_nd (ok_nd (ok_lf (ok_IRet d_X1_tells_97)) (ok_lf (ok_ALdn d_X1_tells_98 rfl rfl))) (ok_nd (ok_lf (ok_CaV su_X1_grows (by decide) rfl d_X1_tells_99 q253 q255 z9 q3 q256 ⟨by decide +kernel, by decide +kernel, by decide +kernel⟩ ⟨by decide, by decide⟩ rfl)) (ok_nd (ok_lf (ok_IRet d_X1_tells_102)) (ok_lf (ok_ALdn d_X1_tells_103 rfl rfl))))) (ok_nd (ok_nd (ok_lf (ok_CaV su_X1_learns (by decide) rfl d_X1_tells_104 q257 q259 z10 q3 q260 ⟨by decide +kernel, by decide +kernel, by decide +kernel⟩ ⟨by decide, by decide⟩ rfl)) (ok_lf (ok_IRet d_X1_tells_107))) (ok_nd (ok_lf (ok_ALdn d_X1_tells_108 rfl rfl)) (ok_nd (ok_lf (ok_CaV su_X1_cools (by decide) rfl d_X1_tells_109 q261 q263 z11 q3 q264 ⟨by decide +kernel, by decide +kernel, by decide +kernel⟩ ⟨by decide, by decide⟩ rfl)) (ok_lf (ok_IRet d_X1_tells_112)))))))
noncomputable def S_X1_tells : Sem := lockS (inl P_X1_tells 39 4) 0
theorem su_X1_tells {l : Launch} {G : Gm} : SemU l G yX1_tells (wsOf yX1_tells cX1_tells 4 (some .int)) 3 S_X1_tells := sem_lock (sem_inl 39 (by decide +kernel) rfl ok_X1_tells)
