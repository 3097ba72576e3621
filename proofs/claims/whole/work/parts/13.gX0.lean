theorem d_X0_become_0 : decode cX0_become 0 = .ok (.aload_n 0, 1) := by decide +kernel
theorem d_X0_become_1 : decode cX0_become 1 = .ok (.aload_n 1, 1) := by decide +kernel
theorem d_X0_become_2 : decode cX0_become 2 = .ok (.getfield 9, 3) := by decide +kernel
theorem d_X0_become_5 : decode cX0_become 5 = .ok (.putfield 9, 3) := by decide +kernel
theorem d_X0_become_8 : decode cX0_become 8 = .ok (.aload_n 0, 1) := by decide +kernel
theorem d_X0_become_9 : decode cX0_become 9 = .ok (.aload_n 1, 1) := by decide +kernel
theorem d_X0_become_10 : decode cX0_become 10 = .ok (.getfield 15, 3) := by decide +kernel
theorem d_X0_become_13 : decode cX0_become 13 = .ok (.putfield 15, 3) := by decide +kernel
theorem d_X0_become_16 : decode cX0_become 16 = .ok (.aload_n 0, 1) := by decide +kernel
theorem d_X0_become_17 : decode cX0_become 17 = .ok (.aload_n 1, 1) := by decide +kernel
theorem d_X0_become_18 : decode cX0_become 18 = .ok (.getfield 18, 3) := by decide +kernel
theorem d_X0_become_21 : decode cX0_become 21 = .ok (.putfield 18, 3) := by decide +kernel
theorem d_X0_become_24 : decode cX0_become 24 = .ok (.aload_n 0, 1) := by decide +kernel
theorem d_X0_become_25 : decode cX0_become 25 = .ok (.aload_n 1, 1) := by decide +kernel
theorem d_X0_become_26 : decode cX0_become 26 = .ok (.getfield 21, 3) := by decide +kernel
theorem d_X0_become_29 : decode cX0_become 29 = .ok (.putfield 21, 3) := by decide +kernel
theorem d_X0_become_32 : decode cX0_become 32 = .ok (.aload_n 0, 1) := by decide +kernel
theorem d_X0_become_33 : decode cX0_become 33 = .ok (.aload_n 1, 1) := by decide +kernel
theorem d_X0_become_34 : decode cX0_become 34 = .ok (.getfield 24, 3) := by decide +kernel
theorem d_X0_become_37 : decode cX0_become 37 = .ok (.putfield 24, 3) := by decide +kernel
theorem d_X0_become_40 : decode cX0_become 40 = .ok (.aload_n 1, 1) := by decide +kernel
theorem d_X0_become_41 : decode cX0_become 41 = .ok (.getfield 27, 3) := by decide +kernel
theorem d_X0_become_44 : decode cX0_become 44 = .ok (.iconst 0, 1) := by decide +kernel
theorem d_X0_become_45 : decode cX0_become 45 = .ok (.aload_n 0, 1) := by decide +kernel
theorem d_X0_become_46 : decode cX0_become 46 = .ok (.getfield 27, 3) := by decide +kernel
theorem d_X0_become_49 : decode cX0_become 49 = .ok (.iconst 0, 1) := by decide +kernel
theorem d_X0_become_50 : decode cX0_become 50 = .ok (.bipush 6, 2) := by decide +kernel
theorem d_X0_become_52 : decode cX0_become 52 = .ok (.invokestatic 44, 3) := by decide +kernel
theorem d_X0_become_55 : decode cX0_become 55 = .ok (.aload_n 1, 1) := by decide +kernel
theorem d_X0_become_56 : decode cX0_become 56 = .ok (.getfield 31, 3) := by decide +kernel
theorem d_X0_become_59 : decode cX0_become 59 = .ok (.iconst 0, 1) := by decide +kernel
theorem d_X0_become_60 : decode cX0_become 60 = .ok (.aload_n 0, 1) := by decide +kernel
theorem d_X0_become_61 : decode cX0_become 61 = .ok (.getfield 31, 3) := by decide +kernel
theorem d_X0_become_64 : decode cX0_become 64 = .ok (.iconst 0, 1) := by decide +kernel
theorem d_X0_become_65 : decode cX0_become 65 = .ok (.bipush 10, 2) := by decide +kernel
theorem d_X0_become_67 : decode cX0_become 67 = .ok (.invokestatic 44, 3) := by decide +kernel
theorem d_X0_become_70 : decode cX0_become 70 = .ok (.aload_n 0, 1) := by decide +kernel
theorem d_X0_become_71 : decode cX0_become 71 = .ok (.aload_n 1, 1) := by decide +kernel
theorem d_X0_become_72 : decode cX0_become 72 = .ok (.getfield 34, 3) := by decide +kernel
theorem d_X0_become_75 : decode cX0_become 75 = .ok (.putfield 34, 3) := by decide +kernel
theorem d_X0_become_78 : decode cX0_become 78 = .ok (.iconst 0, 1) := by decide +kernel
theorem d_X0_become_79 : decode cX0_become 79 = .ok (.istore_n 2, 1) := by decide +kernel
theorem d_X0_become_80 : decode cX0_become 80 = .ok (.iload_n 2, 1) := by decide +kernel
theorem d_X0_become_81 : decode cX0_become 81 = .ok (.aload_n 0, 1) := by decide +kernel
theorem d_X0_become_82 : decode cX0_become 82 = .ok (.getfield 34, 3) := by decide +kernel
theorem d_X0_become_85 : decode cX0_become 85 = .ok (.if_icmp .ge 24, 3) := by decide +kernel
theorem d_X0_become_88 : decode cX0_become 88 = .ok (.aload_n 0, 1) := by decide +kernel
theorem d_X0_become_89 : decode cX0_become 89 = .ok (.getfield 39, 3) := by decide +kernel
theorem d_X0_become_92 : decode cX0_become 92 = .ok (.iload_n 2, 1) := by decide +kernel
theorem d_X0_become_93 : decode cX0_become 93 = .ok (.aaload, 1) := by decide +kernel
theorem d_X0_become_94 : decode cX0_become 94 = .ok (.aload_n 1, 1) := by decide +kernel
theorem d_X0_become_95 : decode cX0_become 95 = .ok (.getfield 39, 3) := by decide +kernel
theorem d_X0_become_98 : decode cX0_become 98 = .ok (.iload_n 2, 1) := by decide +kernel
theorem d_X0_become_99 : decode cX0_become 99 = .ok (.aaload, 1) := by decide +kernel
theorem d_X0_become_100 : decode cX0_become 100 = .ok (.invokevirtual 50, 3) := by decide +kernel
theorem d_X0_become_103 : decode cX0_become 103 = .ok (.iinc 2 1, 3) := by decide +kernel
theorem d_X0_become_106 : decode cX0_become 106 = .ok (.goto (-26), 3) := by decide +kernel
theorem d_X0_become_109 : decode cX0_become 109 = .ok (.return_, 1) := by decide +kernel
noncomputable def P_X0_become : Nat → Op := fun pc => nd 56 pc (nd 26 pc (nd 13 pc (nd 5 pc (nd 1 pc (lf 0 pc (oALd 0 1)) (nd 2 pc (lf 1 pc (oALd 1 2)) (lf 2 pc (oGetI 0 0 5)))) (nd 9 pc (nd 8 pc (lf 5 pc (oPutI 0 0 8)) (lf 8 pc (oALd 0 9))) (nd 10 pc (lf 9 pc (oALd 1 10)) (lf 10 pc (oGetI 0 1 13))))) (nd 18 pc (nd 16 pc (lf 13 pc (oPutI 0 1 16)) (nd 17 pc (lf 16 pc (oALd 0 17)) (lf 17 pc (oALd 1 18)))) (nd 24 pc (nd 21 pc (lf 18 pc (oGetI 0 2 21)) (lf 21 pc (oPutI 0 2 24))) (nd 25 pc (lf 24 pc (oALd 0 25)) (lf 25 pc (oALd 1 26)))))) (nd 41 pc (nd 33 pc (nd 29 pc (lf 26 pc (oGetI 0 3 29)) (nd 32 pc (lf 29 pc (oPutI 0 3 32)) (lf 32 pc (oALd 0 33)))) (nd 37 pc (nd 34 pc (lf 33 pc (oALd 1 34)) (lf 34 pc (oGetI 0 4 37))) (nd 40 pc (lf 37 pc (oPutI 0 4 40)) (lf 40 pc (oALd 1 41))))) (nd 49 pc (nd 45 pc (nd 44 pc (lf 41 pc (oGetR 0 5 44)) (lf 44 pc (oCst 0 45))) (nd 46 pc (lf 45 pc (oALd 0 46)) (lf 46 pc (oGetR 0 5 49)))) (nd 52 pc (nd 50 pc (lf 49 pc (oCst 0 50)) (lf 50 pc (oCst 6 52))) (nd 55 pc (lf 52 pc (oCpy 55)) (lf 55 pc (oALd 1 56))))))) (nd 81 pc (nd 70 pc (nd 61 pc (nd 59 pc (lf 56 pc (oGetR 0 6 59)) (nd 60 pc (lf 59 pc (oCst 0 60)) (lf 60 pc (oALd 0 61)))) (nd 65 pc (nd 64 pc (lf 61 pc (oGetR 0 6 64)) (lf 64 pc (oCst 0 65))) (nd 67 pc (lf 65 pc (oCst 10 67)) (lf 67 pc (oCpy 70))))) (nd 75 pc (nd 71 pc (lf 70 pc (oALd 0 71)) (nd 72 pc (lf 71 pc (oALd 1 72)) (lf 72 pc (oGetI 0 7 75)))) (nd 79 pc (nd 78 pc (lf 75 pc (oPutI 0 7 78)) (lf 78 pc (oCst 0 79))) (nd 80 pc (lf 79 pc (oISt 2 80)) (lf 80 pc (lockO (oILd 2 81) 0)))))) (nd 94 pc (nd 88 pc (nd 82 pc (lf 81 pc (oALd 0 82)) (nd 85 pc (lf 82 pc (oGetI 0 7 85)) (lf 85 pc (oCpLt 88 109)))) (nd 92 pc (nd 89 pc (lf 88 pc (oALd 0 89)) (lf 89 pc (oGetR 0 8 92))) (nd 93 pc (lf 92 pc (oILd 2 93)) (lf 93 pc (oAAL 7 94))))) (nd 100 pc (nd 98 pc (nd 95 pc (lf 94 pc (oALd 1 95)) (lf 95 pc (oGetR 0 8 98))) (nd 99 pc (lf 98 pc (oILd 2 99)) (lf 99 pc (oAAL 7 100)))) (nd 106 pc (nd 103 pc (lf 100 pc (oCaV 2 1 S_X1_become 103)) (lf 103 pc (oInc 2 1 106))) (nd 109 pc (lf 106 pc (oGo 80)) (lf 109 pc (oVRet)))))))
theorem ok_X0_become {l : Launch} {G : Gm} : ∀ pc, OkU (TXm l G (rmD 2) 3 cX0_become RX0) (RXm l G (rmD 2) 3 cX0_become RX0 none) pc (P_X0_become pc) := fun pc => ok_nd (ok_nd (ok_nd (ok_nd (ok_nd (ok_lf (ok_ALdn d_X0_become_0 rfl rfl)) (ok_nd (ok_lf (ok_ALdn d_X0_become_1 rfl rfl)) (ok_lf (ok_GetI (by decide) (by decide) rfl d_X0_become_2 q67 rfl)))) (ok_nd (ok_nd (ok_lf (ok_PutI (by decide) (by decide) rfl rfl (by decide +kernel) d_X0_become_5 q67 rfl)) (ok_lf (ok_ALdn d_X0_become_8 rfl rfl))) (ok_nd (ok_lf (ok_ALdn d_X0_become_9 rfl rfl)) (ok_lf (ok_GetI (by decide) (by decide) rfl d_X0_become_10 q70 rfl))))) (ok_nd (ok_nd (ok_lf (ok_PutI (by decide) (by decide) rfl rfl (by decide +kernel) d_X0_become_13 q70 rfl)) (ok_nd (ok_lf (ok_ALdn d_X0_become_16 rfl rfl)) (ok_lf (ok_ALdn d_X0_become_17 rfl rfl)))) (ok_nd (ok_nd (ok_lf (ok_GetI (by decide) (by decide) rfl d_X0_become_18 q73 rfl)) (ok_lf (ok_PutI (by decide) (by decide) rfl rfl (by decide +kernel) d_X0_become_21 q73 rfl))) (ok_nd (ok_lf (ok_ALdn d_X0_become_24 rfl rfl)) (ok_lf (ok_ALdn d_X0_become_25 rfl rfl)))))) (ok_nd (ok_nd (ok_nd (ok_lf (ok_GetI (by decide) (by decide) rfl d_X0_become_26 q75 rfl)) (ok_nd (ok_lf (ok_PutI (by decide) (by decide) rfl rfl (by decide +kernel) d_X0_become_29 q75 rfl)) (ok_lf (ok_ALdn d_X0_become_32 rfl rfl)))) (ok_nd (ok_nd (ok_lf (ok_ALdn d_X0_become_33 rfl rfl)) (ok_lf (ok_GetI (by decide) (by decide) rfl d_X0_become_34 q77 rfl))) (ok_nd (ok_lf (ok_PutI (by decide) (by decide) rfl rfl (by decide +kernel) d_X0_become_37 q77 rfl)) (ok_lf (ok_ALdn d_X0_become_40 rfl rfl))))) (ok_nd (ok_nd (ok_nd (ok_lf (ok_GetR (by decide) (by decide) rfl d_X0_become_41 q79 rfl)) (ok_lf (ok_ICst d_X0_become_44 (by decide) rfl))) (ok_nd (ok_lf (ok_ALdn d_X0_become_45 rfl rfl)) (ok_lf (ok_GetR (by decide) (by decide) rfl d_X0_become_46 q79 rfl)))) (ok_nd (ok_nd (ok_lf (ok_ICst d_X0_become_49 (by decide) rfl)) (ok_lf (ok_BCst d_X0_become_50 (by decide) rfl))) (ok_nd (ok_lf (ok_Cpy d_X0_become_52 q369 q371 q370 q8 ⟨by decide, by decide⟩ rfl)) (ok_lf (ok_ALdn d_X0_become_55 rfl rfl))))))) (ok_nd (ok_nd (ok_nd (ok_nd (ok_lf (ok_GetR (by decide) (by decide) rfl d_X0_become_56 q82 rfl)) (ok_nd (ok_lf (ok_ICst d_X0_become_59 (by decide) rfl)) (ok_lf (ok_ALdn d_X0_become_60 rfl rfl)))) (ok_nd (ok_nd (ok_lf (ok_GetR (by decide) (by decide) rfl d_X0_become_61 q82 rfl)) (ok_lf (ok_ICst d_X0_become_64 (by decide) rfl))) (ok_nd (ok_lf (ok_BCst d_X0_become_65 (by decide) rfl)) (ok_lf (ok_Cpy d_X0_become_67 q369 q371 q370 q8 ⟨by decide, by decide⟩ rfl))))) (ok_nd (ok_nd (ok_lf (ok_ALdn d_X0_become_70 rfl rfl)) (ok_nd (ok_lf (ok_ALdn d_X0_become_71 rfl rfl)) (ok_lf (ok_GetI (by decide) (by decide) rfl d_X0_become_72 q84 rfl)))) (ok_nd (ok_nd (ok_lf (ok_PutI (by decide) (by decide) rfl rfl (by decide +kernel) d_X0_become_75 q84 rfl)) (ok_lf (ok_ICst d_X0_become_78 (by decide) rfl))) (ok_nd (ok_lf (ok_IStn d_X0_become_79 rfl rfl)) (ok_lf (ok_lk (ok_ILdn d_X0_become_80 rfl rfl))))))) (ok_nd (ok_nd (ok_nd (ok_lf (ok_ALdn d_X0_become_81 rfl rfl)) (ok_nd (ok_lf (ok_GetI (by decide) (by decide) rfl d_X0_become_82 q84 rfl)) (ok_lf (ok_CpGe d_X0_become_85 (by decide) rfl)))) (ok_nd (ok_nd (ok_lf (ok_ALdn d_X0_become_88 rfl rfl)) (ok_lf (ok_GetR (by decide) (by decide) rfl d_X0_become_89 q86 rfl))) (ok_nd (ok_lf (ok_ILdn d_X0_become_92 rfl rfl)) (ok_lf (ok_AAL (by decide) (by decide) d_X0_become_93 rfl))))) (ok_nd (ok_nd (ok_nd (ok_lf (ok_ALdn d_X0_become_94 rfl rfl)) (ok_lf (ok_GetR (by decide) (by decide) rfl d_X0_become_95 q86 rfl))) (ok_nd (ok_lf (ok_ILdn d_X0_become_98 rfl rfl)) (ok_lf (ok_AAL (by decide) (by decide) d_X0_become_99 rfl)))) (ok_nd (ok_nd (ok_lf (ok_CaVN su_X1_become (by decide) rfl d_X0_become_100 q372 q374 z29 q3 q375 ⟨by decide +kernel, by decide +kernel, by decide +kernel⟩ ⟨by decide, by decide⟩ rfl)) (ok_lf (ok_Inc d_X0_become_103 (by decide) rfl))) (ok_nd (ok_lf (ok_Go d_X0_become_106 (by decide))) (ok_lf (ok_VRet d_X0_become_109)))))))
noncomputable def S_X0_become : Sem := lockS (inl P_X0_become 30000 3) 0
theorem su_X0_become {l : Launch} {G : Gm} : SemU l G yX0_become (wsOf yX0_become cX0_become 3 none) 2 S_X0_become := sem_lock (sem_inl 30000 (by decide +kernel) rfl ok_X0_become)
theorem d_X0_has_0 : decode cX0_has 0 = .ok (.iload_n 1, 1) := by decide +kernel
theorem d_X0_has_1 : decode cX0_has 1 = .ok (.ifCond .lt 15, 3) := by decide +kernel
theorem d_X0_has_4 : decode cX0_has 4 = .ok (.iload_n 1, 1) := by decide +kernel
theorem d_X0_has_5 : decode cX0_has 5 = .ok (.aload_n 0, 1) := by decide +kernel
theorem d_X0_has_6 : decode cX0_has 6 = .ok (.getfield 34, 3) := by decide +kernel
theorem d_X0_has_9 : decode cX0_has 9 = .ok (.if_icmp .ge 7, 3) := by decide +kernel
theorem d_X0_has_12 : decode cX0_has 12 = .ok (.iconst 1, 1) := by decide +kernel
theorem d_X0_has_13 : decode cX0_has 13 = .ok (.goto 4, 3) := by decide +kernel
theorem d_X0_has_16 : decode cX0_has 16 = .ok (.iconst 0, 1) := by decide +kernel
theorem d_X0_has_17 : decode cX0_has 17 = .ok (.ireturn, 1) := by decide +kernel
noncomputable def P_X0_has : Nat → Op := fun pc => nd 9 pc (nd 4 pc (nd 1 pc (lf 0 pc (oILd 1 1)) (lf 1 pc (oIfLt 16 4))) (nd 5 pc (lf 4 pc (oILd 1 5)) (nd 6 pc (lf 5 pc (oALd 0 6)) (lf 6 pc (oGetI 0 7 9))))) (nd 13 pc (nd 12 pc (lf 9 pc (oCpLt 12 16)) (lf 12 pc (oCst 1 13))) (nd 16 pc (lf 13 pc (oGo 17)) (nd 17 pc (lf 16 pc (oCst 0 17)) (lf 17 pc (oZRet)))))
theorem ok_X0_has {l : Launch} {G : Gm} : ∀ pc, OkU (TXm l G (rmD 1) 2 cX0_has RX0) (RXm l G (rmD 1) 2 cX0_has RX0 (some .boolean)) pc (P_X0_has pc) := fun pc => ok_nd (ok_nd (ok_nd (ok_lf (ok_ILdn d_X0_has_0 rfl rfl)) (ok_lf (ok_IfLt d_X0_has_1 (by decide) rfl))) (ok_nd (ok_lf (ok_ILdn d_X0_has_4 rfl rfl)) (ok_nd (ok_lf (ok_ALdn d_X0_has_5 rfl rfl)) (ok_lf (ok_GetI (by decide) (by decide) rfl d_X0_has_6 q84 rfl))))) (ok_nd (ok_nd (ok_lf (ok_CpGe d_X0_has_9 (by decide) rfl)) (ok_lf (ok_ICst d_X0_has_12 (by decide) rfl))) (ok_nd (ok_lf (ok_Go d_X0_has_13 (by decide))) (ok_nd (ok_lf (ok_ICst d_X0_has_16 (by decide) rfl)) (ok_lf (ok_ZRet d_X0_has_17)))))
noncomputable def S_X0_has : Sem := inl P_X0_has 12 2
theorem su_X0_has {l : Launch} {G : Gm} : SemU l G yX0_has (wsOf yX0_has cX0_has 2 (some .boolean)) 1 S_X0_has := sem_inl 12 (by decide +kernel) rfl ok_X0_has
theorem d_X0_areTwo_0 : decode cX0_areTwo 0 = .ok (.aload_n 0, 1) := by decide +kernel
theorem d_X0_areTwo_1 : decode cX0_areTwo 1 = .ok (.iload_n 1, 1) := by decide +kernel
theorem d_X0_areTwo_2 : decode cX0_areTwo 2 = .ok (.invokevirtual 54, 3) := by decide +kernel
theorem d_X0_areTwo_5 : decode cX0_areTwo 5 = .ok (.ifCond .eq 20, 3) := by decide +kernel
theorem d_X0_areTwo_8 : decode cX0_areTwo 8 = .ok (.aload_n 0, 1) := by decide +kernel
theorem d_X0_areTwo_9 : decode cX0_areTwo 9 = .ok (.iload_n 2, 1) := by decide +kernel
theorem d_X0_areTwo_10 : decode cX0_areTwo 10 = .ok (.invokevirtual 54, 3) := by decide +kernel
theorem d_X0_areTwo_13 : decode cX0_areTwo 13 = .ok (.ifCond .eq 12, 3) := by decide +kernel
theorem d_X0_areTwo_16 : decode cX0_areTwo 16 = .ok (.iload_n 1, 1) := by decide +kernel
theorem d_X0_areTwo_17 : decode cX0_areTwo 17 = .ok (.iload_n 2, 1) := by decide +kernel
theorem d_X0_areTwo_18 : decode cX0_areTwo 18 = .ok (.if_icmp .eq 7, 3) := by decide +kernel
theorem d_X0_areTwo_21 : decode cX0_areTwo 21 = .ok (.iconst 1, 1) := by decide +kernel
theorem d_X0_areTwo_22 : decode cX0_areTwo 22 = .ok (.goto 4, 3) := by decide +kernel
theorem d_X0_areTwo_25 : decode cX0_areTwo 25 = .ok (.iconst 0, 1) := by decide +kernel
theorem d_X0_areTwo_26 : decode cX0_areTwo 26 = .ok (.ireturn, 1) := by decide +kernel
noncomputable def P_X0_areTwo : Nat → Op := fun pc => nd 13 pc (nd 5 pc (nd 1 pc (lf 0 pc (oALd 0 1)) (nd 2 pc (lf 1 pc (oILd 1 2)) (lf 2 pc (oCaV 2 0 S_X0_has 5)))) (nd 9 pc (nd 8 pc (lf 5 pc (oIfEq 25 8)) (lf 8 pc (oALd 0 9))) (nd 10 pc (lf 9 pc (oILd 2 10)) (lf 10 pc (oCaV 2 0 S_X0_has 13))))) (nd 21 pc (nd 17 pc (nd 16 pc (lf 13 pc (oIfEq 25 16)) (lf 16 pc (oILd 1 17))) (nd 18 pc (lf 17 pc (oILd 2 18)) (lf 18 pc (oCpEq 25 21)))) (nd 25 pc (nd 22 pc (lf 21 pc (oCst 1 22)) (lf 22 pc (oGo 26))) (nd 26 pc (lf 25 pc (oCst 0 26)) (lf 26 pc (oZRet)))))
theorem ok_X0_areTwo {l : Launch} {G : Gm} : ∀ pc, OkU (TXm l G (rmD 2) 3 cX0_areTwo RX0) (RXm l G (rmD 2) 3 cX0_areTwo RX0 (some .boolean)) pc (P_X0_areTwo pc) := fun pc => ok_nd (ok_nd (ok_nd (ok_lf (ok_ALdn d_X0_areTwo_0 rfl rfl)) (ok_nd (ok_lf (ok_ILdn d_X0_areTwo_1 rfl rfl)) (ok_lf (ok_CaV su_X0_has (by decide) rfl d_X0_areTwo_2 q285 q229 z4 q2 q230 ⟨by decide +kernel, by decide +kernel, by decide +kernel⟩ ⟨by decide, by decide⟩ rfl)))) (ok_nd (ok_nd (ok_lf (ok_IfEq d_X0_areTwo_5 (by decide) rfl)) (ok_lf (ok_ALdn d_X0_areTwo_8 rfl rfl))) (ok_nd (ok_lf (ok_ILdn d_X0_areTwo_9 rfl rfl)) (ok_lf (ok_CaV su_X0_has (by decide) rfl d_X0_areTwo_10 q285 q229 z4 q2 q230 ⟨by decide +kernel, by decide +kernel, by decide +kernel⟩ ⟨by decide, by decide⟩ rfl))))) (ok_nd (ok_nd (ok_nd (ok_lf (ok_IfEq d_X0_areTwo_13 (by decide) rfl)) (ok_lf (ok_ILdn d_X0_areTwo_16 rfl rfl))) (ok_nd (ok_lf (ok_ILdn d_X0_areTwo_17 rfl rfl)) (ok_lf (ok_CpEq d_X0_areTwo_18 (by decide) rfl)))) (ok_nd (ok_nd (ok_lf (ok_ICst d_X0_areTwo_21 (by decide) rfl)) (ok_lf (ok_Go d_X0_areTwo_22 (by decide)))) (ok_nd (ok_lf (ok_ICst d_X0_areTwo_25 (by decide) rfl)) (ok_lf (ok_ZRet d_X0_areTwo_26)))))
noncomputable def S_X0_areTwo : Sem := inl P_X0_areTwo 17 3
theorem su_X0_areTwo {l : Launch} {G : Gm} : SemU l G yX0_areTwo (wsOf yX0_areTwo cX0_areTwo 3 (some .boolean)) 2 S_X0_areTwo := sem_inl 17 (by decide +kernel) rfl ok_X0_areTwo
theorem d_X0_isFull_0 : decode cX0_isFull 0 = .ok (.aload_n 0, 1) := by decide +kernel
theorem d_X0_isFull_1 : decode cX0_isFull 1 = .ok (.getfield 34, 3) := by decide +kernel
theorem d_X0_isFull_4 : decode cX0_isFull 4 = .ok (.bipush 8, 2) := by decide +kernel
theorem d_X0_isFull_6 : decode cX0_isFull 6 = .ok (.if_icmp .lt 7, 3) := by decide +kernel
theorem d_X0_isFull_9 : decode cX0_isFull 9 = .ok (.iconst 1, 1) := by decide +kernel
theorem d_X0_isFull_10 : decode cX0_isFull 10 = .ok (.goto 4, 3) := by decide +kernel
theorem d_X0_isFull_13 : decode cX0_isFull 13 = .ok (.iconst 0, 1) := by decide +kernel
theorem d_X0_isFull_14 : decode cX0_isFull 14 = .ok (.ireturn, 1) := by decide +kernel
noncomputable def P_X0_isFull : Nat → Op := fun pc => nd 9 pc (nd 4 pc (nd 1 pc (lf 0 pc (oALd 0 1)) (lf 1 pc (oGetI 0 7 4))) (nd 6 pc (lf 4 pc (oCst 8 6)) (lf 6 pc (oCpLt 13 9)))) (nd 13 pc (nd 10 pc (lf 9 pc (oCst 1 10)) (lf 10 pc (oGo 14))) (nd 14 pc (lf 13 pc (oCst 0 14)) (lf 14 pc (oZRet))))
theorem ok_X0_isFull {l : Launch} {G : Gm} : ∀ pc, OkU (TXm l G (rmD 1) 1 cX0_isFull RX0) (RXm l G (rmD 1) 1 cX0_isFull RX0 (some .boolean)) pc (P_X0_isFull pc) := fun pc => ok_nd (ok_nd (ok_nd (ok_lf (ok_ALdn d_X0_isFull_0 rfl rfl)) (ok_lf (ok_GetI (by decide) (by decide) rfl d_X0_isFull_1 q84 rfl))) (ok_nd (ok_lf (ok_BCst d_X0_isFull_4 (by decide) rfl)) (ok_lf (ok_CpLt d_X0_isFull_6 (by decide) rfl)))) (ok_nd (ok_nd (ok_lf (ok_ICst d_X0_isFull_9 (by decide) rfl)) (ok_lf (ok_Go d_X0_isFull_10 (by decide)))) (ok_nd (ok_lf (ok_ICst d_X0_isFull_13 (by decide) rfl)) (ok_lf (ok_ZRet d_X0_isFull_14))))
noncomputable def S_X0_isFull : Sem := inl P_X0_isFull 10 1
theorem su_X0_isFull {l : Launch} {G : Gm} : SemU l G yX0_isFull (wsOf yX0_isFull cX0_isFull 1 (some .boolean)) 1 S_X0_isFull := sem_inl 10 (by decide +kernel) rfl ok_X0_isFull
theorem d_X0_admit_0 : decode cX0_admit 0 = .ok (.aload_n 0, 1) := by decide +kernel
theorem d_X0_admit_1 : decode cX0_admit 1 = .ok (.getfield 39, 3) := by decide +kernel
theorem d_X0_admit_4 : decode cX0_admit 4 = .ok (.aload_n 0, 1) := by decide +kernel
theorem d_X0_admit_5 : decode cX0_admit 5 = .ok (.getfield 34, 3) := by decide +kernel
theorem d_X0_admit_8 : decode cX0_admit 8 = .ok (.aaload, 1) := by decide +kernel
theorem d_X0_admit_9 : decode cX0_admit 9 = .ok (.iload_n 1, 1) := by decide +kernel
theorem d_X0_admit_10 : decode cX0_admit 10 = .ok (.iload_n 2, 1) := by decide +kernel
theorem d_X0_admit_11 : decode cX0_admit 11 = .ok (.invokevirtual 58, 3) := by decide +kernel
theorem d_X0_admit_14 : decode cX0_admit 14 = .ok (.aload_n 0, 1) := by decide +kernel
theorem d_X0_admit_15 : decode cX0_admit 15 = .ok (.dup, 1) := by decide +kernel
theorem d_X0_admit_16 : decode cX0_admit 16 = .ok (.getfield 34, 3) := by decide +kernel
theorem d_X0_admit_19 : decode cX0_admit 19 = .ok (.iconst 1, 1) := by decide +kernel
theorem d_X0_admit_20 : decode cX0_admit 20 = .ok (.iadd, 1) := by decide +kernel
theorem d_X0_admit_21 : decode cX0_admit 21 = .ok (.putfield 34, 3) := by decide +kernel
theorem d_X0_admit_24 : decode cX0_admit 24 = .ok (.aload_n 0, 1) := by decide +kernel
theorem d_X0_admit_25 : decode cX0_admit 25 = .ok (.getfield 34, 3) := by decide +kernel
theorem d_X0_admit_28 : decode cX0_admit 28 = .ok (.iconst 1, 1) := by decide +kernel
theorem d_X0_admit_29 : decode cX0_admit 29 = .ok (.isub, 1) := by decide +kernel
theorem d_X0_admit_30 : decode cX0_admit 30 = .ok (.ireturn, 1) := by decide +kernel
noncomputable def P_X0_admit : Nat → Op := fun pc => nd 15 pc (nd 8 pc (nd 4 pc (nd 1 pc (lf 0 pc (oALd 0 1)) (lf 1 pc (oGetR 0 8 4))) (nd 5 pc (lf 4 pc (oALd 0 5)) (lf 5 pc (oGetI 0 7 8)))) (nd 10 pc (nd 9 pc (lf 8 pc (oAAL 7 9)) (lf 9 pc (oILd 1 10))) (nd 11 pc (lf 10 pc (oILd 2 11)) (nd 14 pc (lf 11 pc (oCaV 3 1 S_X1_begin 14)) (lf 14 pc (oALd 0 15)))))) (nd 24 pc (nd 19 pc (nd 16 pc (lf 15 pc (oDup 16)) (lf 16 pc (oGetI 0 7 19))) (nd 20 pc (lf 19 pc (oCst 1 20)) (nd 21 pc (lf 20 pc (oBin (fun x y => x + y) 21)) (lf 21 pc (oPutI 0 7 24))))) (nd 28 pc (nd 25 pc (lf 24 pc (oALd 0 25)) (lf 25 pc (oGetI 0 7 28))) (nd 29 pc (lf 28 pc (oCst 1 29)) (nd 30 pc (lf 29 pc (oBin (fun x y => x - y) 30)) (lf 30 pc (oIRet))))))
theorem ok_X0_admit {l : Launch} {G : Gm} : ∀ pc, OkU (TXm l G (rmD 2) 3 cX0_admit RX0) (RXm l G (rmD 2) 3 cX0_admit RX0 (some .int)) pc (P_X0_admit pc) := fun pc => ok_nd (ok_nd (ok_nd (ok_nd (ok_lf (ok_ALdn d_X0_admit_0 rfl rfl)) (ok_lf (ok_GetR (by decide) (by decide) rfl d_X0_admit_1 q86 rfl))) (ok_nd (ok_lf (ok_ALdn d_X0_admit_4 rfl rfl)) (ok_lf (ok_GetI (by decide) (by decide) rfl d_X0_admit_5 q84 rfl)))) (ok_nd (ok_nd (ok_lf (ok_AAL (by decide) (by decide) d_X0_admit_8 rfl)) (ok_lf (ok_ILdn d_X0_admit_9 rfl rfl))) (ok_nd (ok_lf (ok_ILdn d_X0_admit_10 rfl rfl)) (ok_nd (ok_lf (ok_CaVN su_X1_begin (by decide) rfl d_X0_admit_11 q219 q221 z3 q3 q222 ⟨by decide +kernel, by decide +kernel, by decide +kernel⟩ ⟨by decide, by decide⟩ rfl)) (ok_lf (ok_ALdn d_X0_admit_14 rfl rfl)))))) (ok_nd (ok_nd (ok_nd (ok_lf (ok_Dup d_X0_admit_15 rfl)) (ok_lf (ok_GetI (by decide) (by decide) rfl d_X0_admit_16 q84 rfl))) (ok_nd (ok_lf (ok_ICst d_X0_admit_19 (by decide) rfl)) (ok_nd (ok_lf (ok_iadd d_X0_admit_20 rfl)) (ok_lf (ok_PutI (by decide) (by decide) rfl rfl (by decide +kernel) d_X0_admit_21 q84 rfl))))) (ok_nd (ok_nd (ok_lf (ok_ALdn d_X0_admit_24 rfl rfl)) (ok_lf (ok_GetI (by decide) (by decide) rfl d_X0_admit_25 q84 rfl))) (ok_nd (ok_lf (ok_ICst d_X0_admit_28 (by decide) rfl)) (ok_nd (ok_lf (ok_isub d_X0_admit_29 rfl)) (ok_lf (ok_IRet d_X0_admit_30))))))
noncomputable def S_X0_admit : Sem := lockS (inl P_X0_admit 21 3) 0
theorem su_X0_admit {l : Launch} {G : Gm} : SemU l G yX0_admit (wsOf yX0_admit cX0_admit 3 (some .int)) 2 S_X0_admit := sem_lock (sem_inl 21 (by decide +kernel) rfl ok_X0_admit)
theorem d_X0_hush_0 : decode cX0_hush 0 = .ok (.iconst 0, 1) := by decide +kernel
theorem d_X0_hush_1 : decode cX0_hush 1 = .ok (.istore_n 2, 1) := by decide +kernel
theorem d_X0_hush_2 : decode cX0_hush 2 = .ok (.iload_n 2, 1) := by decide +kernel
theorem d_X0_hush_3 : decode cX0_hush 3 = .ok (.aload_n 0, 1) := by decide +kernel
theorem d_X0_hush_4 : decode cX0_hush 4 = .ok (.getfield 34, 3) := by decide +kernel
theorem d_X0_hush_7 : decode cX0_hush 7 = .ok (.if_icmp .ge 28, 3) := by decide +kernel
theorem d_X0_hush_10 : decode cX0_hush 10 = .ok (.iload_n 1, 1) := by decide +kernel
theorem d_X0_hush_11 : decode cX0_hush 11 = .ok (.iload_n 2, 1) := by decide +kernel
theorem d_X0_hush_12 : decode cX0_hush 12 = .ok (.ishr, 1) := by decide +kernel
theorem d_X0_hush_13 : decode cX0_hush 13 = .ok (.iconst 1, 1) := by decide +kernel
theorem d_X0_hush_14 : decode cX0_hush 14 = .ok (.iand, 1) := by decide +kernel
theorem d_X0_hush_15 : decode cX0_hush 15 = .ok (.iconst 1, 1) := by decide +kernel
theorem d_X0_hush_16 : decode cX0_hush 16 = .ok (.if_icmp .ne 13, 3) := by decide +kernel
theorem d_X0_hush_19 : decode cX0_hush 19 = .ok (.aload_n 0, 1) := by decide +kernel
theorem d_X0_hush_20 : decode cX0_hush 20 = .ok (.getfield 39, 3) := by decide +kernel
theorem d_X0_hush_23 : decode cX0_hush 23 = .ok (.iload_n 2, 1) := by decide +kernel
theorem d_X0_hush_24 : decode cX0_hush 24 = .ok (.aaload, 1) := by decide +kernel
theorem d_X0_hush_25 : decode cX0_hush 25 = .ok (.iconst 1, 1) := by decide +kernel
theorem d_X0_hush_26 : decode cX0_hush 26 = .ok (.putfield 62, 3) := by decide +kernel
theorem d_X0_hush_29 : decode cX0_hush 29 = .ok (.iinc 2 1, 3) := by decide +kernel
theorem d_X0_hush_32 : decode cX0_hush 32 = .ok (.goto (-30), 3) := by decide +kernel
theorem d_X0_hush_35 : decode cX0_hush 35 = .ok (.return_, 1) := by decide +kernel
noncomputable def P_X0_hush : Nat → Op := fun pc => nd 15 pc (nd 7 pc (nd 2 pc (nd 1 pc (lf 0 pc (oCst 0 1)) (lf 1 pc (oISt 2 2))) (nd 3 pc (lf 2 pc (lockO (oILd 2 3) 0)) (nd 4 pc (lf 3 pc (oALd 0 4)) (lf 4 pc (oGetI 0 7 7))))) (nd 12 pc (nd 10 pc (lf 7 pc (oCpLt 10 35)) (nd 11 pc (lf 10 pc (oILd 1 11)) (lf 11 pc (oILd 2 12)))) (nd 13 pc (lf 12 pc (oBin (fun x y => x >>> (y &&& 31)) 13)) (nd 14 pc (lf 13 pc (oCst 1 14)) (lf 14 pc (oBin (fun x y => x &&& y) 15)))))) (nd 24 pc (nd 19 pc (nd 16 pc (lf 15 pc (oCst 1 16)) (lf 16 pc (oCpEq 19 29))) (nd 20 pc (lf 19 pc (oALd 0 20)) (nd 23 pc (lf 20 pc (oGetR 0 8 23)) (lf 23 pc (oILd 2 24))))) (nd 29 pc (nd 25 pc (lf 24 pc (oAAL 7 25)) (nd 26 pc (lf 25 pc (oCst 1 26)) (lf 26 pc (oPutI 1 5 29)))) (nd 32 pc (lf 29 pc (oInc 2 1 32)) (nd 35 pc (lf 32 pc (oGo 2)) (lf 35 pc (oVRet))))))
theorem ok_X0_hush {l : Launch} {G : Gm} : ∀ pc, OkU (TXm l G (rmD 1) 3 cX0_hush RX0) (RXm l G (rmD 1) 3 cX0_hush RX0 none) pc (P_X0_hush pc) := fun pc => ok_nd (ok_nd (ok_nd (ok_nd (ok_lf (ok_ICst d_X0_hush_0 (by decide) rfl)) (ok_lf (ok_IStn d_X0_hush_1 rfl rfl))) (ok_nd (ok_lf (ok_lk (ok_ILdn d_X0_hush_2 rfl rfl))) (ok_nd (ok_lf (ok_ALdn d_X0_hush_3 rfl rfl)) (ok_lf (ok_GetI (by decide) (by decide) rfl d_X0_hush_4 q84 rfl))))) (ok_nd (ok_nd (ok_lf (ok_CpGe d_X0_hush_7 (by decide) rfl)) (ok_nd (ok_lf (ok_ILdn d_X0_hush_10 rfl rfl)) (ok_lf (ok_ILdn d_X0_hush_11 rfl rfl)))) (ok_nd (ok_lf (ok_ishr d_X0_hush_12 rfl)) (ok_nd (ok_lf (ok_ICst d_X0_hush_13 (by decide) rfl)) (ok_lf (ok_iand d_X0_hush_14 rfl)))))) (ok_nd (ok_nd (ok_nd (ok_lf (ok_ICst d_X0_hush_15 (by decide) rfl)) (ok_lf (ok_CpNe d_X0_hush_16 (by decide) rfl))) (ok_nd (ok_lf (ok_ALdn d_X0_hush_19 rfl rfl)) (ok_nd (ok_lf (ok_GetR (by decide) (by decide) rfl d_X0_hush_20 q86 rfl)) (ok_lf (ok_ILdn d_X0_hush_23 rfl rfl))))) (ok_nd (ok_nd (ok_lf (ok_AAL (by decide) (by decide) d_X0_hush_24 rfl)) (ok_nd (ok_lf (ok_ICst d_X0_hush_25 (by decide) rfl)) (ok_lf (ok_PutIN (by decide) (by decide) rfl rfl (by decide +kernel) d_X0_hush_26 q52 rfl)))) (ok_nd (ok_lf (ok_Inc d_X0_hush_29 (by decide) rfl)) (ok_nd (ok_lf (ok_Go d_X0_hush_32 (by decide))) (ok_lf (ok_VRet d_X0_hush_35))))))
noncomputable def S_X0_hush : Sem := lockS (inl P_X0_hush 30000 3) 0
theorem su_X0_hush {l : Launch} {G : Gm} : SemU l G yX0_hush (wsOf yX0_hush cX0_hush 3 none) 1 S_X0_hush := sem_lock (sem_inl 30000 (by decide +kernel) rfl ok_X0_hush)
theorem d_X0_draw_0 : decode cX0_draw 0 = .ok (.aload_n 0, 1) := by decide +kernel
theorem d_X0_draw_1 : decode cX0_draw 1 = .ok (.aload_n 0, 1) := by decide +kernel
theorem d_X0_draw_2 : decode cX0_draw 2 = .ok (.getfield 24, 3) := by decide +kernel
theorem d_X0_draw_5 : decode cX0_draw 5 = .ok (.ldc 65, 2) := by decide +kernel
theorem d_X0_draw_7 : decode cX0_draw 7 = .ok (.imul, 1) := by decide +kernel
theorem d_X0_draw_8 : decode cX0_draw 8 = .ok (.sipush 12345, 3) := by decide +kernel
theorem d_X0_draw_11 : decode cX0_draw 11 = .ok (.iadd, 1) := by decide +kernel
theorem d_X0_draw_12 : decode cX0_draw 12 = .ok (.putfield 24, 3) := by decide +kernel
theorem d_X0_draw_15 : decode cX0_draw 15 = .ok (.aload_n 0, 1) := by decide +kernel
theorem d_X0_draw_16 : decode cX0_draw 16 = .ok (.getfield 24, 3) := by decide +kernel
theorem d_X0_draw_19 : decode cX0_draw 19 = .ok (.bipush 8, 2) := by decide +kernel
theorem d_X0_draw_21 : decode cX0_draw 21 = .ok (.iushr, 1) := by decide +kernel
theorem d_X0_draw_22 : decode cX0_draw 22 = .ok (.ireturn, 1) := by decide +kernel
noncomputable def P_X0_draw : Nat → Op := fun pc => nd 11 pc (nd 5 pc (nd 1 pc (lf 0 pc (oALd 0 1)) (nd 2 pc (lf 1 pc (oALd 0 2)) (lf 2 pc (oGetI 0 4 5)))) (nd 7 pc (lf 5 pc (oCst (1103515245) 7)) (nd 8 pc (lf 7 pc (oBin (fun x y => x * y) 8)) (lf 8 pc (oCst 12345 11))))) (nd 16 pc (nd 12 pc (lf 11 pc (oBin (fun x y => x + y) 12)) (nd 15 pc (lf 12 pc (oPutI 0 4 15)) (lf 15 pc (oALd 0 16)))) (nd 21 pc (nd 19 pc (lf 16 pc (oGetI 0 4 19)) (lf 19 pc (oCst 8 21))) (nd 22 pc (lf 21 pc (oBin (fun x y => (x.toUInt32 >>> (y.toUInt32 &&& Int32.toUInt32 31)).toInt32) 22)) (lf 22 pc (oIRet)))))
theorem ok_X0_draw {l : Launch} {G : Gm} : ∀ pc, OkU (TXm l G (rmD 1) 1 cX0_draw RX0) (RXm l G (rmD 1) 1 cX0_draw RX0 (some .int)) pc (P_X0_draw pc) := fun pc => ok_nd (ok_nd (ok_nd (ok_lf (ok_ALdn d_X0_draw_0 rfl rfl)) (ok_nd (ok_lf (ok_ALdn d_X0_draw_1 rfl rfl)) (ok_lf (ok_GetI (by decide) (by decide) rfl d_X0_draw_2 q77 rfl)))) (ok_nd (ok_lf (ok_Ldc d_X0_draw_5 q478 rfl)) (ok_nd (ok_lf (ok_imul d_X0_draw_7 rfl)) (ok_lf (ok_SCst d_X0_draw_8 (by decide) rfl))))) (ok_nd (ok_nd (ok_lf (ok_iadd d_X0_draw_11 rfl)) (ok_nd (ok_lf (ok_PutI (by decide) (by decide) rfl rfl (by decide +kernel) d_X0_draw_12 q77 rfl)) (ok_lf (ok_ALdn d_X0_draw_15 rfl rfl)))) (ok_nd (ok_nd (ok_lf (ok_GetI (by decide) (by decide) rfl d_X0_draw_16 q77 rfl)) (ok_lf (ok_BCst d_X0_draw_19 (by decide) rfl))) (ok_nd (ok_lf (ok_iushr d_X0_draw_21 rfl)) (ok_lf (ok_IRet d_X0_draw_22)))))
noncomputable def S_X0_draw : Sem := lockS (inl P_X0_draw 15 1) 0
theorem su_X0_draw {l : Launch} {G : Gm} : SemU l G yX0_draw (wsOf yX0_draw cX0_draw 1 (some .int)) 1 S_X0_draw := sem_lock (sem_inl 15 (by decide +kernel) rfl ok_X0_draw)
theorem d_X0_turns_0 : decode cX0_turns 0 = .ok (.iload_n 1, 1) := by decide +kernel
theorem d_X0_turns_1 : decode cX0_turns 1 = .ok (.bipush 10, 2) := by decide +kernel
theorem d_X0_turns_3 : decode cX0_turns 3 = .ok (.aload_n 0, 1) := by decide +kernel
theorem d_X0_turns_4 : decode cX0_turns 4 = .ok (.getfield 15, 3) := by decide +kernel
theorem d_X0_turns_7 : decode cX0_turns 7 = .ok (.isub, 1) := by decide +kernel
theorem d_X0_turns_8 : decode cX0_turns 8 = .ok (.imul, 1) := by decide +kernel
theorem d_X0_turns_9 : decode cX0_turns 9 = .ok (.bipush 7, 2) := by decide +kernel
theorem d_X0_turns_11 : decode cX0_turns 11 = .ok (.idiv, 1) := by decide +kernel
theorem d_X0_turns_12 : decode cX0_turns 12 = .ok (.aload_n 0, 1) := by decide +kernel
theorem d_X0_turns_13 : decode cX0_turns 13 = .ok (.getfield 39, 3) := by decide +kernel
theorem d_X0_turns_16 : decode cX0_turns 16 = .ok (.iload_n 2, 1) := by decide +kernel
theorem d_X0_turns_17 : decode cX0_turns 17 = .ok (.aaload, 1) := by decide +kernel
theorem d_X0_turns_18 : decode cX0_turns 18 = .ok (.aload_n 0, 1) := by decide +kernel
theorem d_X0_turns_19 : decode cX0_turns 19 = .ok (.getfield 21, 3) := by decide +kernel
theorem d_X0_turns_22 : decode cX0_turns 22 = .ok (.invokevirtual 66, 3) := by decide +kernel
theorem d_X0_turns_25 : decode cX0_turns 25 = .ok (.iadd, 1) := by decide +kernel
theorem d_X0_turns_26 : decode cX0_turns 26 = .ok (.aload_n 0, 1) := by decide +kernel
theorem d_X0_turns_27 : decode cX0_turns 27 = .ok (.getfield 39, 3) := by decide +kernel
theorem d_X0_turns_30 : decode cX0_turns 30 = .ok (.iload_n 3, 1) := by decide +kernel
theorem d_X0_turns_31 : decode cX0_turns 31 = .ok (.aaload, 1) := by decide +kernel
theorem d_X0_turns_32 : decode cX0_turns 32 = .ok (.aload_n 0, 1) := by decide +kernel
theorem d_X0_turns_33 : decode cX0_turns 33 = .ok (.getfield 21, 3) := by decide +kernel
theorem d_X0_turns_36 : decode cX0_turns 36 = .ok (.invokevirtual 66, 3) := by decide +kernel
theorem d_X0_turns_39 : decode cX0_turns 39 = .ok (.iadd, 1) := by decide +kernel
theorem d_X0_turns_40 : decode cX0_turns 40 = .ok (.ireturn, 1) := by decide +kernel
noncomputable def P_X0_turns : Nat → Op := fun pc => nd 18 pc (nd 9 pc (nd 4 pc (nd 1 pc (lf 0 pc (oILd 1 1)) (nd 3 pc (lf 1 pc (oCst 10 3)) (lf 3 pc (oALd 0 4)))) (nd 7 pc (lf 4 pc (oGetI 0 1 7)) (nd 8 pc (lf 7 pc (oBin (fun x y => x - y) 8)) (lf 8 pc (oBin (fun x y => x * y) 9))))) (nd 13 pc (nd 11 pc (lf 9 pc (oCst 7 11)) (nd 12 pc (lf 11 pc (oDiv (fun x y => x / y) 12)) (lf 12 pc (oALd 0 13)))) (nd 16 pc (lf 13 pc (oGetR 0 8 16)) (nd 17 pc (lf 16 pc (oILd 2 17)) (lf 17 pc (oAAL 7 18)))))) (nd 30 pc (nd 25 pc (nd 19 pc (lf 18 pc (oALd 0 19)) (nd 22 pc (lf 19 pc (oGetI 0 3 22)) (lf 22 pc (oCaV 2 1 S_X1_jolts 25)))) (nd 26 pc (lf 25 pc (oBin (fun x y => x + y) 26)) (nd 27 pc (lf 26 pc (oALd 0 27)) (lf 27 pc (oGetR 0 8 30))))) (nd 33 pc (nd 31 pc (lf 30 pc (oILd 3 31)) (nd 32 pc (lf 31 pc (oAAL 7 32)) (lf 32 pc (oALd 0 33)))) (nd 39 pc (nd 36 pc (lf 33 pc (oGetI 0 3 36)) (lf 36 pc (oCaV 2 1 S_X1_jolts 39))) (nd 40 pc (lf 39 pc (oBin (fun x y => x + y) 40)) (lf 40 pc (oIRet))))))
theorem ok_X0_turns {l : Launch} {G : Gm} : ∀ pc, OkU (TXm l G (rmD 2) 4 cX0_turns RX0) (RXm l G (rmD 2) 4 cX0_turns RX0 (some .int)) pc (P_X0_turns pc) := fun pc => ok_nd (ok_nd (ok_nd (ok_nd (ok_lf (ok_ILdn d_X0_turns_0 rfl rfl)) (ok_nd (ok_lf (ok_BCst d_X0_turns_1 (by decide) rfl)) (ok_lf (ok_ALdn d_X0_turns_3 rfl rfl)))) (ok_nd (ok_lf (ok_GetI (by decide) (by decide) rfl d_X0_turns_4 q70 rfl)) (ok_nd (ok_lf (ok_isub d_X0_turns_7 rfl)) (ok_lf (ok_imul d_X0_turns_8 rfl))))) (ok_nd (ok_nd (ok_lf (ok_BCst d_X0_turns_9 (by decide) rfl)) (ok_nd (ok_lf (ok_idiv d_X0_turns_11 rfl)) (ok_lf (ok_ALdn d_X0_turns_12 rfl rfl)))) (ok_nd (ok_lf (ok_GetR (by decide) (by decide) rfl d_X0_turns_13 q86 rfl)) (ok_nd (ok_lf (ok_ILdn d_X0_turns_16 rfl rfl)) (ok_lf (ok_AAL (by decide) (by decide) d_X0_turns_17 rfl)))))) (ok_nd (ok_nd (ok_nd (ok_lf (ok_ALdn d_X0_turns_18 rfl rfl)) (ok_nd (ok_lf (ok_GetI (by decide) (by decide) rfl d_X0_turns_19 q75 rfl)) (ok_lf (ok_CaVN su_X1_jolts (by decide) rfl d_X0_turns_22 q290 q251 z8 q3 q252 ⟨by decide +kernel, by decide +kernel, by decide +kernel⟩ ⟨by decide, by decide⟩ rfl)))) (ok_nd (ok_lf (ok_iadd d_X0_turns_25 rfl)) (ok_nd (ok_lf (ok_ALdn d_X0_turns_26 rfl rfl)) (ok_lf (ok_GetR (by decide) (by decide) rfl d_X0_turns_27 q86 rfl))))) (ok_nd (ok_nd (ok_lf (ok_ILdn d_X0_turns_30 rfl rfl)) (ok_nd (ok_lf (ok_AAL (by decide) (by decide) d_X0_turns_31 rfl)) (ok_lf (ok_ALdn d_X0_turns_32 rfl rfl)))) (ok_nd (ok_nd (ok_lf (ok_GetI (by decide) (by decide) rfl d_X0_turns_33 q75 rfl)) (ok_lf (ok_CaVN su_X1_jolts (by decide) rfl d_X0_turns_36 q290 q251 z8 q3 q252 ⟨by decide +kernel, by decide +kernel, by decide +kernel⟩ ⟨by decide, by decide⟩ rfl))) (ok_nd (ok_lf (ok_iadd d_X0_turns_39 rfl)) (ok_lf (ok_IRet d_X0_turns_40))))))
noncomputable def S_X0_turns : Sem := lockS (inl P_X0_turns 27 4) 0
theorem su_X0_turns {l : Launch} {G : Gm} : SemU l G yX0_turns (wsOf yX0_turns cX0_turns 4 (some .int)) 2 S_X0_turns := sem_lock (sem_inl 27 (by decide +kernel) rfl ok_X0_turns)
theorem d_X0_loser_0 : decode cX0_loser 0 = .ok (.aload_n 0, 1) := by decide +kernel
theorem d_X0_loser_1 : decode cX0_loser 1 = .ok (.iload_n 1, 1) := by decide +kernel
theorem d_X0_loser_2 : decode cX0_loser 2 = .ok (.iload_n 2, 1) := by decide +kernel
theorem d_X0_loser_3 : decode cX0_loser 3 = .ok (.iload_n 3, 1) := by decide +kernel
theorem d_X0_loser_4 : decode cX0_loser 4 = .ok (.invokevirtual 70, 3) := by decide +kernel
theorem d_X0_loser_7 : decode cX0_loser 7 = .ok (.istore 4, 2) := by decide +kernel
theorem d_X0_loser_9 : decode cX0_loser 9 = .ok (.iload 4, 2) := by decide +kernel
theorem d_X0_loser_11 : decode cX0_loser 11 = .ok (.bipush 13, 2) := by decide +kernel
theorem d_X0_loser_13 : decode cX0_loser 13 = .ok (.irem, 1) := by decide +kernel
theorem d_X0_loser_14 : decode cX0_loser 14 = .ok (.ifCond .ne 5, 3) := by decide +kernel
theorem d_X0_loser_17 : decode cX0_loser 17 = .ok (.iconst (-1), 1) := by decide +kernel
theorem d_X0_loser_18 : decode cX0_loser 18 = .ok (.ireturn, 1) := by decide +kernel
theorem d_X0_loser_19 : decode cX0_loser 19 = .ok (.aload_n 0, 1) := by decide +kernel
theorem d_X0_loser_20 : decode cX0_loser 20 = .ok (.getfield 39, 3) := by decide +kernel
theorem d_X0_loser_23 : decode cX0_loser 23 = .ok (.iload_n 2, 1) := by decide +kernel
theorem d_X0_loser_24 : decode cX0_loser 24 = .ok (.aaload, 1) := by decide +kernel
theorem d_X0_loser_25 : decode cX0_loser 25 = .ok (.aload_n 0, 1) := by decide +kernel
theorem d_X0_loser_26 : decode cX0_loser 26 = .ok (.getfield 15, 3) := by decide +kernel
theorem d_X0_loser_29 : decode cX0_loser 29 = .ok (.invokevirtual 74, 3) := by decide +kernel
theorem d_X0_loser_32 : decode cX0_loser 32 = .ok (.aload_n 0, 1) := by decide +kernel
theorem d_X0_loser_33 : decode cX0_loser 33 = .ok (.getfield 39, 3) := by decide +kernel
theorem d_X0_loser_36 : decode cX0_loser 36 = .ok (.iload_n 3, 1) := by decide +kernel
theorem d_X0_loser_37 : decode cX0_loser 37 = .ok (.aaload, 1) := by decide +kernel
theorem d_X0_loser_38 : decode cX0_loser 38 = .ok (.aload_n 0, 1) := by decide +kernel
theorem d_X0_loser_39 : decode cX0_loser 39 = .ok (.getfield 15, 3) := by decide +kernel
theorem d_X0_loser_42 : decode cX0_loser 42 = .ok (.invokevirtual 74, 3) := by decide +kernel
theorem d_X0_loser_45 : decode cX0_loser 45 = .ok (.if_icmp .ge 7, 3) := by decide +kernel
theorem d_X0_loser_48 : decode cX0_loser 48 = .ok (.iconst 1, 1) := by decide +kernel
theorem d_X0_loser_49 : decode cX0_loser 49 = .ok (.goto 4, 3) := by decide +kernel
theorem d_X0_loser_52 : decode cX0_loser 52 = .ok (.iconst 0, 1) := by decide +kernel
theorem d_X0_loser_53 : decode cX0_loser 53 = .ok (.istore 5, 2) := by decide +kernel
theorem d_X0_loser_55 : decode cX0_loser 55 = .ok (.iload 4, 2) := by decide +kernel
theorem d_X0_loser_57 : decode cX0_loser 57 = .ok (.iconst 2, 1) := by decide +kernel
theorem d_X0_loser_58 : decode cX0_loser 58 = .ok (.irem, 1) := by decide +kernel
theorem d_X0_loser_59 : decode cX0_loser 59 = .ok (.ifCond .ne 8, 3) := by decide +kernel
theorem d_X0_loser_62 : decode cX0_loser 62 = .ok (.iload 5, 2) := by decide +kernel
theorem d_X0_loser_64 : decode cX0_loser 64 = .ok (.goto 13, 3) := by decide +kernel
theorem d_X0_loser_67 : decode cX0_loser 67 = .ok (.iload 5, 2) := by decide +kernel
theorem d_X0_loser_69 : decode cX0_loser 69 = .ok (.ifCond .ne 7, 3) := by decide +kernel
theorem d_X0_loser_72 : decode cX0_loser 72 = .ok (.iconst 1, 1) := by decide +kernel
theorem d_X0_loser_73 : decode cX0_loser 73 = .ok (.goto 4, 3) := by decide +kernel
theorem d_X0_loser_76 : decode cX0_loser 76 = .ok (.iconst 0, 1) := by decide +kernel
theorem d_X0_loser_77 : decode cX0_loser 77 = .ok (.istore 6, 2) := by decide +kernel
theorem d_X0_loser_79 : decode cX0_loser 79 = .ok (.iload 6, 2) := by decide +kernel
theorem d_X0_loser_81 : decode cX0_loser 81 = .ok (.ifCond .eq 7, 3) := by decide +kernel
theorem d_X0_loser_84 : decode cX0_loser 84 = .ok (.iload_n 2, 1) := by decide +kernel
theorem d_X0_loser_85 : decode cX0_loser 85 = .ok (.goto 4, 3) := by decide +kernel
theorem d_X0_loser_88 : decode cX0_loser 88 = .ok (.iload_n 3, 1) := by decide +kernel
theorem d_X0_loser_89 : decode cX0_loser 89 = .ok (.ireturn, 1) := by decide +kernel
noncomputable def P_X0_loser : Nat → Op := fun pc => nd 39 pc (nd 19 pc (nd 9 pc (nd 3 pc (nd 1 pc (lf 0 pc (oALd 0 1)) (nd 2 pc (lf 1 pc (oILd 1 2)) (lf 2 pc (oILd 2 3)))) (nd 4 pc (lf 3 pc (oILd 3 4)) (nd 7 pc (lf 4 pc (oCaV 4 0 S_X0_turns 7)) (lf 7 pc (oISt 4 9))))) (nd 14 pc (nd 11 pc (lf 9 pc (oILd 4 11)) (nd 13 pc (lf 11 pc (oCst 13 13)) (lf 13 pc (oDiv (fun x y => x % y) 14)))) (nd 17 pc (lf 14 pc (oIfEq 17 19)) (nd 18 pc (lf 17 pc (oCst (-1) 18)) (lf 18 pc (oIRet)))))) (nd 29 pc (nd 24 pc (nd 20 pc (lf 19 pc (oALd 0 20)) (nd 23 pc (lf 20 pc (oGetR 0 8 23)) (lf 23 pc (oILd 2 24)))) (nd 25 pc (lf 24 pc (oAAL 7 25)) (nd 26 pc (lf 25 pc (oALd 0 26)) (lf 26 pc (oGetI 0 1 29))))) (nd 36 pc (nd 32 pc (lf 29 pc (oCaV 2 1 S_X1_presses 32)) (nd 33 pc (lf 32 pc (oALd 0 33)) (lf 33 pc (oGetR 0 8 36)))) (nd 37 pc (lf 36 pc (oILd 3 37)) (nd 38 pc (lf 37 pc (oAAL 7 38)) (lf 38 pc (oALd 0 39))))))) (nd 64 pc (nd 53 pc (nd 48 pc (nd 42 pc (lf 39 pc (oGetI 0 1 42)) (nd 45 pc (lf 42 pc (oCaV 2 1 S_X1_presses 45)) (lf 45 pc (oCpLt 48 52)))) (nd 49 pc (lf 48 pc (oCst 1 49)) (nd 52 pc (lf 49 pc (oGo 53)) (lf 52 pc (oCst 0 53))))) (nd 58 pc (nd 55 pc (lf 53 pc (oISt 5 55)) (nd 57 pc (lf 55 pc (oILd 4 57)) (lf 57 pc (oCst 2 58)))) (nd 59 pc (lf 58 pc (oDiv (fun x y => x % y) 59)) (nd 62 pc (lf 59 pc (oIfEq 62 67)) (lf 62 pc (oILd 5 64)))))) (nd 77 pc (nd 72 pc (nd 67 pc (lf 64 pc (oGo 77)) (nd 69 pc (lf 67 pc (oILd 5 69)) (lf 69 pc (oIfEq 72 76)))) (nd 73 pc (lf 72 pc (oCst 1 73)) (nd 76 pc (lf 73 pc (oGo 77)) (lf 76 pc (oCst 0 77))))) (nd 84 pc (nd 79 pc (lf 77 pc (oISt 6 79)) (nd 81 pc (lf 79 pc (oILd 6 81)) (lf 81 pc (oIfEq 88 84)))) (nd 88 pc (nd 85 pc (lf 84 pc (oILd 2 85)) (lf 85 pc (oGo 89))) (nd 89 pc (lf 88 pc (oILd 3 89)) (lf 89 pc (oIRet)))))))
theorem ok_X0_loser {l : Launch} {G : Gm} : ∀ pc, OkU (TXm l G (rmD 3) 7 cX0_loser RX0) (RXm l G (rmD 3) 7 cX0_loser RX0 (some .int)) pc (P_X0_loser pc) := fun pc => ok_nd (ok_nd (ok_nd (ok_nd (ok_nd (ok_lf (ok_ALdn d_X0_loser_0 rfl rfl)) (ok_nd (ok_lf (ok_ILdn d_X0_loser_1 rfl rfl)) (ok_lf (ok_ILdn d_X0_loser_2 rfl rfl)))) (ok_nd (ok_lf (ok_ILdn d_X0_loser_3 rfl rfl)) (ok_nd (ok_lf (ok_CaV su_X0_turns (by decide) rfl d_X0_loser_4 q299 q288 z15 q2 q289 ⟨by decide +kernel, by decide +kernel, by decide +kernel⟩ ⟨by decide, by decide⟩ rfl)) (ok_lf (ok_ISt d_X0_loser_7 rfl))))) (ok_nd (ok_nd (ok_lf (ok_ILd d_X0_loser_9 rfl)) (ok_nd (ok_lf (ok_BCst d_X0_loser_11 (by decide) rfl)) (ok_lf (ok_irem d_X0_loser_13 rfl)))) (ok_nd (ok_lf (ok_IfNe d_X0_loser_14 (by decide) rfl)) (ok_nd (ok_lf (ok_ICst d_X0_loser_17 (by decide) rfl)) (ok_lf (ok_IRet d_X0_loser_18)))))) (ok_nd (ok_nd (ok_nd (ok_lf (ok_ALdn d_X0_loser_19 rfl rfl)) (ok_nd (ok_lf (ok_GetR (by decide) (by decide) rfl d_X0_loser_20 q86 rfl)) (ok_lf (ok_ILdn d_X0_loser_23 rfl rfl)))) (ok_nd (ok_lf (ok_AAL (by decide) (by decide) d_X0_loser_24 rfl)) (ok_nd (ok_lf (ok_ALdn d_X0_loser_25 rfl rfl)) (ok_lf (ok_GetI (by decide) (by decide) rfl d_X0_loser_26 q70 rfl))))) (ok_nd (ok_nd (ok_lf (ok_CaVN su_X1_presses (by decide) rfl d_X0_loser_29 q300 q237 z6 q3 q238 ⟨by decide +kernel, by decide +kernel, by decide +kernel⟩ ⟨by decide, by decide⟩ rfl)) (ok_nd (ok_lf (ok_ALdn d_X0_loser_32 rfl rfl)) (ok_lf (ok_GetR (by decide) (by decide) rfl d_X0_loser_33 q86 rfl)))) (ok_nd (ok_lf (ok_ILdn d_X0_loser_36 rfl rfl)) (ok_nd (ok_lf (ok_AAL (by decide) (by decide) d_X0_loser_37 rfl)) (ok_lf (ok_ALdn d_X0_loser_38 rfl rfl))))))) (ok_nd (ok_nd (ok_nd (ok_nd (ok_lf (ok_GetI (by decide) (by decide) rfl d_X0_loser_39 q70 rfl)) (ok_nd (ok_lf (ok_CaVN su_X1_presses (by decide) rfl d_X0_loser_42 q300 q237 z6 q3 q238 ⟨by decide +kernel, by decide +kernel, by decide +kernel⟩ ⟨by decide, by decide⟩ rfl)) (ok_lf (ok_CpGe d_X0_loser_45 (by decide) rfl)))) (ok_nd (ok_lf (ok_ICst d_X0_loser_48 (by decide) rfl)) (ok_nd (ok_lf (ok_Go d_X0_loser_49 (by decide))) (ok_lf (ok_ICst d_X0_loser_52 (by decide) rfl))))) (ok_nd (ok_nd (ok_lf (ok_ISt d_X0_loser_53 rfl)) (ok_nd (ok_lf (ok_ILd d_X0_loser_55 rfl)) (ok_lf (ok_ICst d_X0_loser_57 (by decide) rfl)))) (ok_nd (ok_lf (ok_irem d_X0_loser_58 rfl)) (ok_nd (ok_lf (ok_IfNe d_X0_loser_59 (by decide) rfl)) (ok_lf (ok_ILd d_X0_loser_62 rfl)))))) (ok_nd (ok_nd (ok_nd (ok_lf (ok_Go d_X0_loser_64 (by decide))) (ok_nd (ok_lf (ok_ILd d_X0_loser_67 rfl)) (ok_lf (ok_IfNe d_X0_loser_69 (by decide) rfl)))) (ok_nd (ok_lf (ok_ICst d_X0_loser_72 (by decide) rfl)) (ok_nd (ok_lf (ok_Go d_X0_loser_73 (by decide))) (ok_lf (ok_ICst d_X0_loser_76 (by decide) rfl))))) (ok_nd (ok_nd (ok_lf (ok_ISt d_X0_loser_77 rfl)) (ok_nd (ok_lf (ok_ILd d_X0_loser_79 rfl)) (ok_lf (ok_IfEq d_X0_loser_81 (by decide) rfl)))) (ok_nd (ok_nd (ok_lf (ok_ILdn d_X0_loser_84 rfl rfl)) (ok_lf (ok_Go d_X0_loser_85 (by decide)))) (ok_nd (ok_lf (ok_ILdn d_X0_loser_88 rfl rfl)) (ok_lf (ok_IRet d_X0_loser_89)))))))
noncomputable def S_X0_loser : Sem := lockS (inl P_X0_loser 51 7) 0
theorem su_X0_loser {l : Launch} {G : Gm} : SemU l G yX0_loser (wsOf yX0_loser cX0_loser 7 (some .int)) 3 S_X0_loser := sem_lock (sem_inl 51 (by decide +kernel) rfl ok_X0_loser)
theorem d_X0_fallsOut_0 : decode cX0_fallsOut 0 = .ok (.aload_n 0, 1) := by decide +kernel
theorem d_X0_fallsOut_1 : decode cX0_fallsOut 1 = .ok (.getfield 27, 3) := by decide +kernel
theorem d_X0_fallsOut_4 : decode cX0_fallsOut 4 = .ok (.aload_n 0, 1) := by decide +kernel
theorem d_X0_fallsOut_5 : decode cX0_fallsOut 5 = .ok (.getfield 21, 3) := by decide +kernel
theorem d_X0_fallsOut_8 : decode cX0_fallsOut 8 = .ok (.bipush 6, 2) := by decide +kernel
theorem d_X0_fallsOut_10 : decode cX0_fallsOut 10 = .ok (.irem, 1) := by decide +kernel
theorem d_X0_fallsOut_11 : decode cX0_fallsOut 11 = .ok (.iaload, 1) := by decide +kernel
theorem d_X0_fallsOut_12 : decode cX0_fallsOut 12 = .ok (.bipush 10, 2) := by decide +kernel
theorem d_X0_fallsOut_14 : decode cX0_fallsOut 14 = .ok (.idiv, 1) := by decide +kernel
theorem d_X0_fallsOut_15 : decode cX0_fallsOut 15 = .ok (.istore_n 1, 1) := by decide +kernel
theorem d_X0_fallsOut_16 : decode cX0_fallsOut 16 = .ok (.aload_n 0, 1) := by decide +kernel
theorem d_X0_fallsOut_17 : decode cX0_fallsOut 17 = .ok (.getfield 27, 3) := by decide +kernel
theorem d_X0_fallsOut_20 : decode cX0_fallsOut 20 = .ok (.aload_n 0, 1) := by decide +kernel
theorem d_X0_fallsOut_21 : decode cX0_fallsOut 21 = .ok (.getfield 21, 3) := by decide +kernel
theorem d_X0_fallsOut_24 : decode cX0_fallsOut 24 = .ok (.bipush 6, 2) := by decide +kernel
theorem d_X0_fallsOut_26 : decode cX0_fallsOut 26 = .ok (.irem, 1) := by decide +kernel
theorem d_X0_fallsOut_27 : decode cX0_fallsOut 27 = .ok (.iaload, 1) := by decide +kernel
theorem d_X0_fallsOut_28 : decode cX0_fallsOut 28 = .ok (.bipush 10, 2) := by decide +kernel
theorem d_X0_fallsOut_30 : decode cX0_fallsOut 30 = .ok (.irem, 1) := by decide +kernel
theorem d_X0_fallsOut_31 : decode cX0_fallsOut 31 = .ok (.istore_n 2, 1) := by decide +kernel
theorem d_X0_fallsOut_32 : decode cX0_fallsOut 32 = .ok (.aload_n 0, 1) := by decide +kernel
theorem d_X0_fallsOut_33 : decode cX0_fallsOut 33 = .ok (.iload_n 1, 1) := by decide +kernel
theorem d_X0_fallsOut_34 : decode cX0_fallsOut 34 = .ok (.iload_n 2, 1) := by decide +kernel
theorem d_X0_fallsOut_35 : decode cX0_fallsOut 35 = .ok (.invokevirtual 77, 3) := by decide +kernel
theorem d_X0_fallsOut_38 : decode cX0_fallsOut 38 = .ok (.ifCond .eq 29, 3) := by decide +kernel
theorem d_X0_fallsOut_41 : decode cX0_fallsOut 41 = .ok (.aload_n 0, 1) := by decide +kernel
theorem d_X0_fallsOut_42 : decode cX0_fallsOut 42 = .ok (.getfield 39, 3) := by decide +kernel
theorem d_X0_fallsOut_45 : decode cX0_fallsOut 45 = .ok (.iload_n 1, 1) := by decide +kernel
theorem d_X0_fallsOut_46 : decode cX0_fallsOut 46 = .ok (.aaload, 1) := by decide +kernel
theorem d_X0_fallsOut_47 : decode cX0_fallsOut 47 = .ok (.getfield 62, 3) := by decide +kernel
theorem d_X0_fallsOut_50 : decode cX0_fallsOut 50 = .ok (.iconst 1, 1) := by decide +kernel
theorem d_X0_fallsOut_51 : decode cX0_fallsOut 51 = .ok (.if_icmp .eq 16, 3) := by decide +kernel
theorem d_X0_fallsOut_54 : decode cX0_fallsOut 54 = .ok (.aload_n 0, 1) := by decide +kernel
theorem d_X0_fallsOut_55 : decode cX0_fallsOut 55 = .ok (.getfield 39, 3) := by decide +kernel
theorem d_X0_fallsOut_58 : decode cX0_fallsOut 58 = .ok (.iload_n 2, 1) := by decide +kernel
theorem d_X0_fallsOut_59 : decode cX0_fallsOut 59 = .ok (.aaload, 1) := by decide +kernel
theorem d_X0_fallsOut_60 : decode cX0_fallsOut 60 = .ok (.getfield 62, 3) := by decide +kernel
theorem d_X0_fallsOut_63 : decode cX0_fallsOut 63 = .ok (.iconst 1, 1) := by decide +kernel
theorem d_X0_fallsOut_64 : decode cX0_fallsOut 64 = .ok (.if_icmp .ne 7, 3) := by decide +kernel
theorem d_X0_fallsOut_67 : decode cX0_fallsOut 67 = .ok (.iconst 1, 1) := by decide +kernel
theorem d_X0_fallsOut_68 : decode cX0_fallsOut 68 = .ok (.goto 4, 3) := by decide +kernel
theorem d_X0_fallsOut_71 : decode cX0_fallsOut 71 = .ok (.iconst 0, 1) := by decide +kernel
theorem d_X0_fallsOut_72 : decode cX0_fallsOut 72 = .ok (.ireturn, 1) := by decide +kernel
noncomputable def P_X0_fallsOut : Nat → Op := fun pc => nd 33 pc (nd 16 pc (nd 10 pc (nd 4 pc (nd 1 pc (lf 0 pc (oALd 0 1)) (lf 1 pc (oGetR 0 5 4))) (nd 5 pc (lf 4 pc (oALd 0 5)) (nd 8 pc (lf 5 pc (oGetI 0 3 8)) (lf 8 pc (oCst 6 10))))) (nd 12 pc (nd 11 pc (lf 10 pc (oDiv (fun x y => x % y) 11)) (lf 11 pc (oIAL 12))) (nd 14 pc (lf 12 pc (oCst 10 14)) (nd 15 pc (lf 14 pc (oDiv (fun x y => x / y) 15)) (lf 15 pc (oISt 1 16)))))) (nd 26 pc (nd 20 pc (nd 17 pc (lf 16 pc (oALd 0 17)) (lf 17 pc (oGetR 0 5 20))) (nd 21 pc (lf 20 pc (oALd 0 21)) (nd 24 pc (lf 21 pc (oGetI 0 3 24)) (lf 24 pc (oCst 6 26))))) (nd 30 pc (nd 27 pc (lf 26 pc (oDiv (fun x y => x % y) 27)) (nd 28 pc (lf 27 pc (oIAL 28)) (lf 28 pc (oCst 10 30)))) (nd 31 pc (lf 30 pc (oDiv (fun x y => x % y) 31)) (nd 32 pc (lf 31 pc (oISt 2 32)) (lf 32 pc (oALd 0 33))))))) (nd 54 pc (nd 42 pc (nd 35 pc (nd 34 pc (lf 33 pc (oILd 1 34)) (lf 34 pc (oILd 2 35))) (nd 38 pc (lf 35 pc (oCaV 3 0 S_X0_areTwo 38)) (nd 41 pc (lf 38 pc (oIfEq 67 41)) (lf 41 pc (oALd 0 42))))) (nd 47 pc (nd 45 pc (lf 42 pc (oGetR 0 8 45)) (nd 46 pc (lf 45 pc (oILd 1 46)) (lf 46 pc (oAAL 7 47)))) (nd 50 pc (lf 47 pc (oGetI 1 5 50)) (nd 51 pc (lf 50 pc (oCst 1 51)) (lf 51 pc (oCpEq 67 54)))))) (nd 63 pc (nd 58 pc (nd 55 pc (lf 54 pc (oALd 0 55)) (lf 55 pc (oGetR 0 8 58))) (nd 59 pc (lf 58 pc (oILd 2 59)) (nd 60 pc (lf 59 pc (oAAL 7 60)) (lf 60 pc (oGetI 1 5 63))))) (nd 68 pc (nd 64 pc (lf 63 pc (oCst 1 64)) (nd 67 pc (lf 64 pc (oCpEq 67 71)) (lf 67 pc (oCst 1 68)))) (nd 71 pc (lf 68 pc (oGo 72)) (nd 72 pc (lf 71 pc (oCst 0 72)) (lf 72 pc (oZRet)))))))
theorem ok_X0_fallsOut {l : Launch} {G : Gm} : ∀ pc, OkU (TXm l G (rmD 3) 3 cX0_fallsOut RX0) (RXm l G (rmD 3) 3 cX0_fallsOut RX0 (some .boolean)) pc (P_X0_fallsOut pc) := fun pc => ok_nd (ok_nd (ok_nd (ok_nd (ok_nd (ok_lf (ok_ALdn d_X0_fallsOut_0 rfl rfl)) (ok_lf (ok_GetR (by decide) (by decide) rfl d_X0_fallsOut_1 q79 rfl))) (ok_nd (ok_lf (ok_ALdn d_X0_fallsOut_4 rfl rfl)) (ok_nd (ok_lf (ok_GetI (by decide) (by decide) rfl d_X0_fallsOut_5 q75 rfl)) (ok_lf (ok_BCst d_X0_fallsOut_8 (by decide) rfl))))) (ok_nd (ok_nd (ok_lf (ok_irem d_X0_fallsOut_10 rfl)) (ok_lf (ok_IAL d_X0_fallsOut_11 rfl))) (ok_nd (ok_lf (ok_BCst d_X0_fallsOut_12 (by decide) rfl)) (ok_nd (ok_lf (ok_idiv d_X0_fallsOut_14 rfl)) (ok_lf (ok_IStn d_X0_fallsOut_15 rfl rfl)))))) (ok_nd (ok_nd (ok_nd (ok_lf (ok_ALdn d_X0_fallsOut_16 rfl rfl)) (ok_lf (ok_GetR (by decide) (by decide) rfl d_X0_fallsOut_17 q79 rfl))) (ok_nd (ok_lf (ok_ALdn d_X0_fallsOut_20 rfl rfl)) (ok_nd (ok_lf (ok_GetI (by decide) (by decide) rfl d_X0_fallsOut_21 q75 rfl)) (ok_lf (ok_BCst d_X0_fallsOut_24 (by decide) rfl))))) (ok_nd (ok_nd (ok_lf (ok_irem d_X0_fallsOut_26 rfl)) (ok_nd (ok_lf (ok_IAL d_X0_fallsOut_27 rfl)) (ok_lf (ok_BCst d_X0_fallsOut_28 (by decide) rfl)))) (ok_nd (ok_lf (ok_irem d_X0_fallsOut_30 rfl)) (ok_nd (ok_lf (ok_IStn d_X0_fallsOut_31 rfl rfl)) (ok_lf (ok_ALdn d_X0_fallsOut_32 rfl rfl))))))) (ok_nd (ok_nd (ok_nd (ok_nd (ok_lf (ok_ILdn d_X0_fallsOut_33 rfl rfl)) (ok_lf (ok_ILdn d_X0_fallsOut_34 rfl rfl))) (ok_nd (ok_lf (ok_CaV su_X0_areTwo (by decide) rfl d_X0_fallsOut_35 q316 q283 z14 q2 q284 ⟨by decide +kernel, by decide +kernel, by decide +kernel⟩ ⟨by decide, by decide⟩ rfl)) (ok_nd (ok_lf (ok_IfEq d_X0_fallsOut_38 (by decide) rfl)) (ok_lf (ok_ALdn d_X0_fallsOut_41 rfl rfl))))) (ok_nd (ok_nd (ok_lf (ok_GetR (by decide) (by decide) rfl d_X0_fallsOut_42 q86 rfl)) (ok_nd (ok_lf (ok_ILdn d_X0_fallsOut_45 rfl rfl)) (ok_lf (ok_AAL (by decide) (by decide) d_X0_fallsOut_46 rfl)))) (ok_nd (ok_lf (ok_GetIN (by decide) (by decide) rfl d_X0_fallsOut_47 q52 rfl)) (ok_nd (ok_lf (ok_ICst d_X0_fallsOut_50 (by decide) rfl)) (ok_lf (ok_CpEq d_X0_fallsOut_51 (by decide) rfl)))))) (ok_nd (ok_nd (ok_nd (ok_lf (ok_ALdn d_X0_fallsOut_54 rfl rfl)) (ok_lf (ok_GetR (by decide) (by decide) rfl d_X0_fallsOut_55 q86 rfl))) (ok_nd (ok_lf (ok_ILdn d_X0_fallsOut_58 rfl rfl)) (ok_nd (ok_lf (ok_AAL (by decide) (by decide) d_X0_fallsOut_59 rfl)) (ok_lf (ok_GetIN (by decide) (by decide) rfl d_X0_fallsOut_60 q52 rfl))))) (ok_nd (ok_nd (ok_lf (ok_ICst d_X0_fallsOut_63 (by decide) rfl)) (ok_nd (ok_lf (ok_CpNe d_X0_fallsOut_64 (by decide) rfl)) (ok_lf (ok_ICst d_X0_fallsOut_67 (by decide) rfl)))) (ok_nd (ok_lf (ok_Go d_X0_fallsOut_68 (by decide))) (ok_nd (ok_lf (ok_ICst d_X0_fallsOut_71 (by decide) rfl)) (ok_lf (ok_ZRet d_X0_fallsOut_72)))))))
noncomputable def S_X0_fallsOut : Sem := lockS (inl P_X0_fallsOut 45 3) 0
theorem su_X0_fallsOut {l : Launch} {G : Gm} : SemU l G yX0_fallsOut (wsOf yX0_fallsOut cX0_fallsOut 3 (some .boolean)) 3 S_X0_fallsOut := sem_lock (sem_inl 45 (by decide +kernel) rfl ok_X0_fallsOut)
theorem d_X0_letFall_0 : decode cX0_letFall 0 = .ok (.aload_n 0, 1) := by decide +kernel
theorem d_X0_letFall_1 : decode cX0_letFall 1 = .ok (.aload_n 0, 1) := by decide +kernel
theorem d_X0_letFall_2 : decode cX0_letFall 2 = .ok (.getfield 9, 3) := by decide +kernel
theorem d_X0_letFall_5 : decode cX0_letFall 5 = .ok (.iload_n 1, 1) := by decide +kernel
theorem d_X0_letFall_6 : decode cX0_letFall 6 = .ok (.iload_n 2, 1) := by decide +kernel
theorem d_X0_letFall_7 : decode cX0_letFall 7 = .ok (.invokevirtual 98, 3) := by decide +kernel
theorem d_X0_letFall_10 : decode cX0_letFall 10 = .ok (.istore_n 3, 1) := by decide +kernel
theorem d_X0_letFall_11 : decode cX0_letFall 11 = .ok (.iload_n 3, 1) := by decide +kernel
theorem d_X0_letFall_12 : decode cX0_letFall 12 = .ok (.iconst (-1), 1) := by decide +kernel
theorem d_X0_letFall_13 : decode cX0_letFall 13 = .ok (.if_icmp .ne 22, 3) := by decide +kernel
theorem d_X0_letFall_16 : decode cX0_letFall 16 = .ok (.aload_n 0, 1) := by decide +kernel
theorem d_X0_letFall_17 : decode cX0_letFall 17 = .ok (.aload_n 0, 1) := by decide +kernel
theorem d_X0_letFall_18 : decode cX0_letFall 18 = .ok (.getfield 18, 3) := by decide +kernel
theorem d_X0_letFall_21 : decode cX0_letFall 21 = .ok (.iconst 1, 1) := by decide +kernel
theorem d_X0_letFall_22 : decode cX0_letFall 22 = .ok (.iadd, 1) := by decide +kernel
theorem d_X0_letFall_23 : decode cX0_letFall 23 = .ok (.sipush 9999, 3) := by decide +kernel
theorem d_X0_letFall_26 : decode cX0_letFall 26 = .ok (.invokestatic 92, 3) := by decide +kernel
theorem d_X0_letFall_29 : decode cX0_letFall 29 = .ok (.putfield 18, 3) := by decide +kernel
theorem d_X0_letFall_32 : decode cX0_letFall 32 = .ok (.goto 30, 3) := by decide +kernel
theorem d_X0_letFall_35 : decode cX0_letFall 35 = .ok (.aload_n 0, 1) := by decide +kernel
theorem d_X0_letFall_36 : decode cX0_letFall 36 = .ok (.getfield 39, 3) := by decide +kernel
theorem d_X0_letFall_39 : decode cX0_letFall 39 = .ok (.iload_n 3, 1) := by decide +kernel
theorem d_X0_letFall_40 : decode cX0_letFall 40 = .ok (.aaload, 1) := by decide +kernel
theorem d_X0_letFall_41 : decode cX0_letFall 41 = .ok (.invokevirtual 101, 3) := by decide +kernel
theorem d_X0_letFall_44 : decode cX0_letFall 44 = .ok (.aload_n 0, 1) := by decide +kernel
theorem d_X0_letFall_45 : decode cX0_letFall 45 = .ok (.getfield 39, 3) := by decide +kernel
theorem d_X0_letFall_48 : decode cX0_letFall 48 = .ok (.iload_n 3, 1) := by decide +kernel
theorem d_X0_letFall_49 : decode cX0_letFall 49 = .ok (.iload_n 1, 1) := by decide +kernel
theorem d_X0_letFall_50 : decode cX0_letFall 50 = .ok (.if_icmp .ne 7, 3) := by decide +kernel
theorem d_X0_letFall_53 : decode cX0_letFall 53 = .ok (.iload_n 2, 1) := by decide +kernel
theorem d_X0_letFall_54 : decode cX0_letFall 54 = .ok (.goto 4, 3) := by decide +kernel
theorem d_X0_letFall_57 : decode cX0_letFall 57 = .ok (.iload_n 1, 1) := by decide +kernel
theorem d_X0_letFall_58 : decode cX0_letFall 58 = .ok (.aaload, 1) := by decide +kernel
theorem d_X0_letFall_59 : decode cX0_letFall 59 = .ok (.invokevirtual 104, 3) := by decide +kernel
theorem d_X0_letFall_62 : decode cX0_letFall 62 = .ok (.return_, 1) := by decide +kernel
noncomputable def P_X0_letFall : Nat → Op := fun pc => nd 29 pc (nd 12 pc (nd 6 pc (nd 2 pc (nd 1 pc (lf 0 pc (oALd 0 1)) (lf 1 pc (oALd 0 2))) (nd 5 pc (lf 2 pc (oGetI 0 0 5)) (lf 5 pc (oILd 1 6)))) (nd 10 pc (nd 7 pc (lf 6 pc (oILd 2 7)) (lf 7 pc (oCaV 4 0 S_X0_loser 10))) (nd 11 pc (lf 10 pc (oISt 3 11)) (lf 11 pc (oILd 3 12))))) (nd 18 pc (nd 16 pc (nd 13 pc (lf 12 pc (oCst (-1) 13)) (lf 13 pc (oCpEq 16 35))) (nd 17 pc (lf 16 pc (oALd 0 17)) (lf 17 pc (oALd 0 18)))) (nd 22 pc (nd 21 pc (lf 18 pc (oGetI 0 2 21)) (lf 21 pc (oCst 1 22))) (nd 23 pc (lf 22 pc (oBin (fun x y => x + y) 23)) (nd 26 pc (lf 23 pc (oCst 9999 26)) (lf 26 pc (oMin 29))))))) (nd 48 pc (nd 39 pc (nd 35 pc (nd 32 pc (lf 29 pc (oPutI 0 2 32)) (lf 32 pc (oGo 62))) (nd 36 pc (lf 35 pc (oALd 0 36)) (lf 36 pc (oGetR 0 8 39)))) (nd 41 pc (nd 40 pc (lf 39 pc (oILd 3 40)) (lf 40 pc (oAAL 7 41))) (nd 44 pc (lf 41 pc (oCaV 1 1 S_X1_isFoundWrong 44)) (nd 45 pc (lf 44 pc (oALd 0 45)) (lf 45 pc (oGetR 0 8 48)))))) (nd 54 pc (nd 50 pc (nd 49 pc (lf 48 pc (oILd 3 49)) (lf 49 pc (oILd 1 50))) (nd 53 pc (lf 50 pc (oCpEq 53 57)) (lf 53 pc (oILd 2 54)))) (nd 58 pc (nd 57 pc (lf 54 pc (oGo 58)) (lf 57 pc (oILd 1 58))) (nd 59 pc (lf 58 pc (oAAL 7 59)) (nd 62 pc (lf 59 pc (oCaV 1 1 S_X1_isFoundRight 62)) (lf 62 pc (oVRet)))))))
theorem ok_X0_letFall {l : Launch} {G : Gm} : ∀ pc, OkU (TXm l G (rmD 4) 4 cX0_letFall RX0) (RXm l G (rmD 4) 4 cX0_letFall RX0 none) pc (P_X0_letFall pc) := fun pc => ok_nd (ok_nd (ok_nd (ok_nd (ok_nd (ok_lf (ok_ALdn d_X0_letFall_0 rfl rfl)) (ok_lf (ok_ALdn d_X0_letFall_1 rfl rfl))) (ok_nd (ok_lf (ok_GetI (by decide) (by decide) rfl d_X0_letFall_2 q67 rfl)) (ok_lf (ok_ILdn d_X0_letFall_5 rfl rfl)))) (ok_nd (ok_nd (ok_lf (ok_ILdn d_X0_letFall_6 rfl rfl)) (ok_lf (ok_CaV su_X0_loser (by decide) rfl d_X0_letFall_7 q321 q297 z16 q2 q298 ⟨by decide +kernel, by decide +kernel, by decide +kernel⟩ ⟨by decide, by decide⟩ rfl))) (ok_nd (ok_lf (ok_IStn d_X0_letFall_10 rfl rfl)) (ok_lf (ok_ILdn d_X0_letFall_11 rfl rfl))))) (ok_nd (ok_nd (ok_nd (ok_lf (ok_ICst d_X0_letFall_12 (by decide) rfl)) (ok_lf (ok_CpNe d_X0_letFall_13 (by decide) rfl))) (ok_nd (ok_lf (ok_ALdn d_X0_letFall_16 rfl rfl)) (ok_lf (ok_ALdn d_X0_letFall_17 rfl rfl)))) (ok_nd (ok_nd (ok_lf (ok_GetI (by decide) (by decide) rfl d_X0_letFall_18 q73 rfl)) (ok_lf (ok_ICst d_X0_letFall_21 (by decide) rfl))) (ok_nd (ok_lf (ok_iadd d_X0_letFall_22 rfl)) (ok_nd (ok_lf (ok_SCst d_X0_letFall_23 (by decide) rfl)) (ok_lf (ok_Min d_X0_letFall_26 q322 q247 q7 q248 ⟨by decide, by decide⟩ rfl))))))) (ok_nd (ok_nd (ok_nd (ok_nd (ok_lf (ok_PutI (by decide) (by decide) rfl rfl (by decide +kernel) d_X0_letFall_29 q73 rfl)) (ok_lf (ok_Go d_X0_letFall_32 (by decide)))) (ok_nd (ok_lf (ok_ALdn d_X0_letFall_35 rfl rfl)) (ok_lf (ok_GetR (by decide) (by decide) rfl d_X0_letFall_36 q86 rfl)))) (ok_nd (ok_nd (ok_lf (ok_ILdn d_X0_letFall_39 rfl rfl)) (ok_lf (ok_AAL (by decide) (by decide) d_X0_letFall_40 rfl))) (ok_nd (ok_lf (ok_CaVN su_X1_isFoundWrong (by decide) rfl d_X0_letFall_41 q323 q325 z20 q3 q326 ⟨by decide +kernel, by decide +kernel, by decide +kernel⟩ ⟨by decide, by decide⟩ rfl)) (ok_nd (ok_lf (ok_ALdn d_X0_letFall_44 rfl rfl)) (ok_lf (ok_GetR (by decide) (by decide) rfl d_X0_letFall_45 q86 rfl)))))) (ok_nd (ok_nd (ok_nd (ok_lf (ok_ILdn d_X0_letFall_48 rfl rfl)) (ok_lf (ok_ILdn d_X0_letFall_49 rfl rfl))) (ok_nd (ok_lf (ok_CpNe d_X0_letFall_50 (by decide) rfl)) (ok_lf (ok_ILdn d_X0_letFall_53 rfl rfl)))) (ok_nd (ok_nd (ok_lf (ok_Go d_X0_letFall_54 (by decide))) (ok_lf (ok_ILdn d_X0_letFall_57 rfl rfl))) (ok_nd (ok_lf (ok_AAL (by decide) (by decide) d_X0_letFall_58 rfl)) (ok_nd (ok_lf (ok_CaVN su_X1_isFoundRight (by decide) rfl d_X0_letFall_59 q327 q329 z21 q3 q330 ⟨by decide +kernel, by decide +kernel, by decide +kernel⟩ ⟨by decide, by decide⟩ rfl)) (ok_lf (ok_VRet d_X0_letFall_62)))))))
noncomputable def S_X0_letFall : Sem := lockS (inl P_X0_letFall 37 4) 0
theorem su_X0_letFall {l : Launch} {G : Gm} : SemU l G yX0_letFall (wsOf yX0_letFall cX0_letFall 4 none) 4 S_X0_letFall := sem_lock (sem_inl 37 (by decide +kernel) rfl ok_X0_letFall)
theorem d_X0_dropOnce_0 : decode cX0_dropOnce 0 = .ok (.aload_n 0, 1) := by decide +kernel
theorem d_X0_dropOnce_1 : decode cX0_dropOnce 1 = .ok (.invokevirtual 81, 3) := by decide +kernel
theorem d_X0_dropOnce_4 : decode cX0_dropOnce 4 = .ok (.ifCond .ne 37, 3) := by decide +kernel
theorem d_X0_dropOnce_7 : decode cX0_dropOnce 7 = .ok (.aload_n 0, 1) := by decide +kernel
theorem d_X0_dropOnce_8 : decode cX0_dropOnce 8 = .ok (.aload_n 0, 1) := by decide +kernel
theorem d_X0_dropOnce_9 : decode cX0_dropOnce 9 = .ok (.getfield 27, 3) := by decide +kernel
theorem d_X0_dropOnce_12 : decode cX0_dropOnce 12 = .ok (.aload_n 0, 1) := by decide +kernel
theorem d_X0_dropOnce_13 : decode cX0_dropOnce 13 = .ok (.getfield 21, 3) := by decide +kernel
theorem d_X0_dropOnce_16 : decode cX0_dropOnce 16 = .ok (.bipush 6, 2) := by decide +kernel
theorem d_X0_dropOnce_18 : decode cX0_dropOnce 18 = .ok (.irem, 1) := by decide +kernel
theorem d_X0_dropOnce_19 : decode cX0_dropOnce 19 = .ok (.iaload, 1) := by decide +kernel
theorem d_X0_dropOnce_20 : decode cX0_dropOnce 20 = .ok (.bipush 10, 2) := by decide +kernel
theorem d_X0_dropOnce_22 : decode cX0_dropOnce 22 = .ok (.idiv, 1) := by decide +kernel
theorem d_X0_dropOnce_23 : decode cX0_dropOnce 23 = .ok (.aload_n 0, 1) := by decide +kernel
theorem d_X0_dropOnce_24 : decode cX0_dropOnce 24 = .ok (.getfield 27, 3) := by decide +kernel
theorem d_X0_dropOnce_27 : decode cX0_dropOnce 27 = .ok (.aload_n 0, 1) := by decide +kernel
theorem d_X0_dropOnce_28 : decode cX0_dropOnce 28 = .ok (.getfield 21, 3) := by decide +kernel
theorem d_X0_dropOnce_31 : decode cX0_dropOnce 31 = .ok (.bipush 6, 2) := by decide +kernel
theorem d_X0_dropOnce_33 : decode cX0_dropOnce 33 = .ok (.irem, 1) := by decide +kernel
theorem d_X0_dropOnce_34 : decode cX0_dropOnce 34 = .ok (.iaload, 1) := by decide +kernel
theorem d_X0_dropOnce_35 : decode cX0_dropOnce 35 = .ok (.bipush 10, 2) := by decide +kernel
theorem d_X0_dropOnce_37 : decode cX0_dropOnce 37 = .ok (.irem, 1) := by decide +kernel
theorem d_X0_dropOnce_38 : decode cX0_dropOnce 38 = .ok (.invokevirtual 85, 3) := by decide +kernel
theorem d_X0_dropOnce_41 : decode cX0_dropOnce 41 = .ok (.iconst 0, 1) := by decide +kernel
theorem d_X0_dropOnce_42 : decode cX0_dropOnce 42 = .ok (.istore_n 1, 1) := by decide +kernel
theorem d_X0_dropOnce_43 : decode cX0_dropOnce 43 = .ok (.iload_n 1, 1) := by decide +kernel
theorem d_X0_dropOnce_44 : decode cX0_dropOnce 44 = .ok (.aload_n 0, 1) := by decide +kernel
theorem d_X0_dropOnce_45 : decode cX0_dropOnce 45 = .ok (.getfield 34, 3) := by decide +kernel
theorem d_X0_dropOnce_48 : decode cX0_dropOnce 48 = .ok (.if_icmp .ge 18, 3) := by decide +kernel
theorem d_X0_dropOnce_51 : decode cX0_dropOnce 51 = .ok (.aload_n 0, 1) := by decide +kernel
theorem d_X0_dropOnce_52 : decode cX0_dropOnce 52 = .ok (.getfield 39, 3) := by decide +kernel
theorem d_X0_dropOnce_55 : decode cX0_dropOnce 55 = .ok (.iload_n 1, 1) := by decide +kernel
theorem d_X0_dropOnce_56 : decode cX0_dropOnce 56 = .ok (.aaload, 1) := by decide +kernel
theorem d_X0_dropOnce_57 : decode cX0_dropOnce 57 = .ok (.invokevirtual 88, 3) := by decide +kernel
theorem d_X0_dropOnce_60 : decode cX0_dropOnce 60 = .ok (.iinc 1 1, 3) := by decide +kernel
theorem d_X0_dropOnce_63 : decode cX0_dropOnce 63 = .ok (.goto (-20), 3) := by decide +kernel
theorem d_X0_dropOnce_66 : decode cX0_dropOnce 66 = .ok (.aload_n 0, 1) := by decide +kernel
theorem d_X0_dropOnce_67 : decode cX0_dropOnce 67 = .ok (.aload_n 0, 1) := by decide +kernel
theorem d_X0_dropOnce_68 : decode cX0_dropOnce 68 = .ok (.getfield 21, 3) := by decide +kernel
theorem d_X0_dropOnce_71 : decode cX0_dropOnce 71 = .ok (.iconst 1, 1) := by decide +kernel
theorem d_X0_dropOnce_72 : decode cX0_dropOnce 72 = .ok (.iadd, 1) := by decide +kernel
theorem d_X0_dropOnce_73 : decode cX0_dropOnce 73 = .ok (.ldc 91, 2) := by decide +kernel
theorem d_X0_dropOnce_75 : decode cX0_dropOnce 75 = .ok (.invokestatic 92, 3) := by decide +kernel
theorem d_X0_dropOnce_78 : decode cX0_dropOnce 78 = .ok (.putfield 21, 3) := by decide +kernel
theorem d_X0_dropOnce_81 : decode cX0_dropOnce 81 = .ok (.return_, 1) := by decide +kernel
noncomputable def P_X0_dropOnce : Nat → Op := fun pc => nd 38 pc (nd 20 pc (nd 9 pc (nd 4 pc (nd 1 pc (lf 0 pc (oALd 0 1)) (lf 1 pc (oCaV 1 0 S_X0_fallsOut 4))) (nd 7 pc (lf 4 pc (oIfEq 7 41)) (nd 8 pc (lf 7 pc (oALd 0 8)) (lf 8 pc (oALd 0 9))))) (nd 16 pc (nd 12 pc (lf 9 pc (oGetR 0 5 12)) (nd 13 pc (lf 12 pc (oALd 0 13)) (lf 13 pc (oGetI 0 3 16)))) (nd 18 pc (lf 16 pc (oCst 6 18)) (nd 19 pc (lf 18 pc (oDiv (fun x y => x % y) 19)) (lf 19 pc (oIAL 20)))))) (nd 28 pc (nd 23 pc (nd 22 pc (lf 20 pc (oCst 10 22)) (lf 22 pc (oDiv (fun x y => x / y) 23))) (nd 24 pc (lf 23 pc (oALd 0 24)) (nd 27 pc (lf 24 pc (oGetR 0 5 27)) (lf 27 pc (oALd 0 28))))) (nd 34 pc (nd 31 pc (lf 28 pc (oGetI 0 3 31)) (nd 33 pc (lf 31 pc (oCst 6 33)) (lf 33 pc (oDiv (fun x y => x % y) 34)))) (nd 35 pc (lf 34 pc (oIAL 35)) (nd 37 pc (lf 35 pc (oCst 10 37)) (lf 37 pc (oDiv (fun x y => x % y) 38))))))) (nd 57 pc (nd 45 pc (nd 42 pc (nd 41 pc (lf 38 pc (oCaV 3 0 S_X0_letFall 41)) (lf 41 pc (oCst 0 42))) (nd 43 pc (lf 42 pc (oISt 1 43)) (nd 44 pc (lf 43 pc (lockO (oILd 1 44) 0)) (lf 44 pc (oALd 0 45))))) (nd 52 pc (nd 48 pc (lf 45 pc (oGetI 0 7 48)) (nd 51 pc (lf 48 pc (oCpLt 51 66)) (lf 51 pc (oALd 0 52)))) (nd 55 pc (lf 52 pc (oGetR 0 8 55)) (nd 56 pc (lf 55 pc (oILd 1 56)) (lf 56 pc (oAAL 7 57)))))) (nd 71 pc (nd 66 pc (nd 60 pc (lf 57 pc (oCaV 1 1 S_X1_coolDown 60)) (nd 63 pc (lf 60 pc (oInc 1 1 63)) (lf 63 pc (oGo 43)))) (nd 67 pc (lf 66 pc (oALd 0 67)) (nd 68 pc (lf 67 pc (oALd 0 68)) (lf 68 pc (oGetI 0 3 71))))) (nd 75 pc (nd 72 pc (lf 71 pc (oCst 1 72)) (nd 73 pc (lf 72 pc (oBin (fun x y => x + y) 73)) (lf 73 pc (oCst (99999) 75)))) (nd 78 pc (lf 75 pc (oMin 78)) (nd 81 pc (lf 78 pc (oPutI 0 3 81)) (lf 81 pc (oVRet)))))))
theorem ok_X0_dropOnce {l : Launch} {G : Gm} : ∀ pc, OkU (TXm l G (rmD 5) 2 cX0_dropOnce RX0) (RXm l G (rmD 5) 2 cX0_dropOnce RX0 none) pc (P_X0_dropOnce pc) := fun pc => ok_nd (ok_nd (ok_nd (ok_nd (ok_nd (ok_lf (ok_ALdn d_X0_dropOnce_0 rfl rfl)) (ok_lf (ok_CaV su_X0_fallsOut (by decide) rfl d_X0_dropOnce_1 q312 q314 z18 q2 q315 ⟨by decide +kernel, by decide +kernel, by decide +kernel⟩ ⟨by decide, by decide⟩ rfl))) (ok_nd (ok_lf (ok_IfNe d_X0_dropOnce_4 (by decide) rfl)) (ok_nd (ok_lf (ok_ALdn d_X0_dropOnce_7 rfl rfl)) (ok_lf (ok_ALdn d_X0_dropOnce_8 rfl rfl))))) (ok_nd (ok_nd (ok_lf (ok_GetR (by decide) (by decide) rfl d_X0_dropOnce_9 q79 rfl)) (ok_nd (ok_lf (ok_ALdn d_X0_dropOnce_12 rfl rfl)) (ok_lf (ok_GetI (by decide) (by decide) rfl d_X0_dropOnce_13 q75 rfl)))) (ok_nd (ok_lf (ok_BCst d_X0_dropOnce_16 (by decide) rfl)) (ok_nd (ok_lf (ok_irem d_X0_dropOnce_18 rfl)) (ok_lf (ok_IAL d_X0_dropOnce_19 rfl)))))) (ok_nd (ok_nd (ok_nd (ok_lf (ok_BCst d_X0_dropOnce_20 (by decide) rfl)) (ok_lf (ok_idiv d_X0_dropOnce_22 rfl))) (ok_nd (ok_lf (ok_ALdn d_X0_dropOnce_23 rfl rfl)) (ok_nd (ok_lf (ok_GetR (by decide) (by decide) rfl d_X0_dropOnce_24 q79 rfl)) (ok_lf (ok_ALdn d_X0_dropOnce_27 rfl rfl))))) (ok_nd (ok_nd (ok_lf (ok_GetI (by decide) (by decide) rfl d_X0_dropOnce_28 q75 rfl)) (ok_nd (ok_lf (ok_BCst d_X0_dropOnce_31 (by decide) rfl)) (ok_lf (ok_irem d_X0_dropOnce_33 rfl)))) (ok_nd (ok_lf (ok_IAL d_X0_dropOnce_34 rfl)) (ok_nd (ok_lf (ok_BCst d_X0_dropOnce_35 (by decide) rfl)) (ok_lf (ok_irem d_X0_dropOnce_37 rfl))))))) (ok_nd (ok_nd (ok_nd (ok_nd (ok_lf (ok_CaV su_X0_letFall (by decide) rfl d_X0_dropOnce_38 q317 q319 z19 q2 q320 ⟨by decide +kernel, by decide +kernel, by decide +kernel⟩ ⟨by decide, by decide⟩ rfl)) (ok_lf (ok_ICst d_X0_dropOnce_41 (by decide) rfl))) (ok_nd (ok_lf (ok_IStn d_X0_dropOnce_42 rfl rfl)) (ok_nd (ok_lf (ok_lk (ok_ILdn d_X0_dropOnce_43 rfl rfl))) (ok_lf (ok_ALdn d_X0_dropOnce_44 rfl rfl))))) (ok_nd (ok_nd (ok_lf (ok_GetI (by decide) (by decide) rfl d_X0_dropOnce_45 q84 rfl)) (ok_nd (ok_lf (ok_CpGe d_X0_dropOnce_48 (by decide) rfl)) (ok_lf (ok_ALdn d_X0_dropOnce_51 rfl rfl)))) (ok_nd (ok_lf (ok_GetR (by decide) (by decide) rfl d_X0_dropOnce_52 q86 rfl)) (ok_nd (ok_lf (ok_ILdn d_X0_dropOnce_55 rfl rfl)) (ok_lf (ok_AAL (by decide) (by decide) d_X0_dropOnce_56 rfl)))))) (ok_nd (ok_nd (ok_nd (ok_lf (ok_CaVN su_X1_coolDown (by decide) rfl d_X0_dropOnce_57 q331 q333 z22 q3 q334 ⟨by decide +kernel, by decide +kernel, by decide +kernel⟩ ⟨by decide, by decide⟩ rfl)) (ok_nd (ok_lf (ok_Inc d_X0_dropOnce_60 (by decide) rfl)) (ok_lf (ok_Go d_X0_dropOnce_63 (by decide))))) (ok_nd (ok_lf (ok_ALdn d_X0_dropOnce_66 rfl rfl)) (ok_nd (ok_lf (ok_ALdn d_X0_dropOnce_67 rfl rfl)) (ok_lf (ok_GetI (by decide) (by decide) rfl d_X0_dropOnce_68 q75 rfl))))) (ok_nd (ok_nd (ok_lf (ok_ICst d_X0_dropOnce_71 (by decide) rfl)) (ok_nd (ok_lf (ok_iadd d_X0_dropOnce_72 rfl)) (ok_lf (ok_Ldc d_X0_dropOnce_73 q335 rfl)))) (ok_nd (ok_lf (ok_Min d_X0_dropOnce_75 q322 q247 q7 q248 ⟨by decide, by decide⟩ rfl)) (ok_nd (ok_lf (ok_PutI (by decide) (by decide) rfl rfl (by decide +kernel) d_X0_dropOnce_78 q75 rfl)) (ok_lf (ok_VRet d_X0_dropOnce_81)))))))
noncomputable def S_X0_dropOnce : Sem := lockS (inl P_X0_dropOnce 30000 2) 0
theorem su_X0_dropOnce {l : Launch} {G : Gm} : SemU l G yX0_dropOnce (wsOf yX0_dropOnce cX0_dropOnce 2 none) 5 S_X0_dropOnce := sem_lock (sem_inl 30000 (by decide +kernel) rfl ok_X0_dropOnce)
theorem d_X0_wrongs_0 : decode cX0_wrongs 0 = .ok (.iconst 0, 1) := by decide +kernel
theorem d_X0_wrongs_1 : decode cX0_wrongs 1 = .ok (.istore_n 1, 1) := by decide +kernel
theorem d_X0_wrongs_2 : decode cX0_wrongs 2 = .ok (.iconst 0, 1) := by decide +kernel
theorem d_X0_wrongs_3 : decode cX0_wrongs 3 = .ok (.istore_n 2, 1) := by decide +kernel
theorem d_X0_wrongs_4 : decode cX0_wrongs 4 = .ok (.iload_n 2, 1) := by decide +kernel
theorem d_X0_wrongs_5 : decode cX0_wrongs 5 = .ok (.aload_n 0, 1) := by decide +kernel
theorem d_X0_wrongs_6 : decode cX0_wrongs 6 = .ok (.getfield 34, 3) := by decide +kernel
theorem d_X0_wrongs_9 : decode cX0_wrongs 9 = .ok (.if_icmp .ge 21, 3) := by decide +kernel
theorem d_X0_wrongs_12 : decode cX0_wrongs 12 = .ok (.iload_n 1, 1) := by decide +kernel
theorem d_X0_wrongs_13 : decode cX0_wrongs 13 = .ok (.aload_n 0, 1) := by decide +kernel
theorem d_X0_wrongs_14 : decode cX0_wrongs 14 = .ok (.getfield 39, 3) := by decide +kernel
theorem d_X0_wrongs_17 : decode cX0_wrongs 17 = .ok (.iload_n 2, 1) := by decide +kernel
theorem d_X0_wrongs_18 : decode cX0_wrongs 18 = .ok (.aaload, 1) := by decide +kernel
theorem d_X0_wrongs_19 : decode cX0_wrongs 19 = .ok (.getfield 107, 3) := by decide +kernel
theorem d_X0_wrongs_22 : decode cX0_wrongs 22 = .ok (.iadd, 1) := by decide +kernel
theorem d_X0_wrongs_23 : decode cX0_wrongs 23 = .ok (.istore_n 1, 1) := by decide +kernel
theorem d_X0_wrongs_24 : decode cX0_wrongs 24 = .ok (.iinc 2 1, 3) := by decide +kernel
theorem d_X0_wrongs_27 : decode cX0_wrongs 27 = .ok (.goto (-23), 3) := by decide +kernel
theorem d_X0_wrongs_30 : decode cX0_wrongs 30 = .ok (.iload_n 1, 1) := by decide +kernel
theorem d_X0_wrongs_31 : decode cX0_wrongs 31 = .ok (.ireturn, 1) := by decide +kernel
noncomputable def P_X0_wrongs : Nat → Op := fun pc => nd 14 pc (nd 5 pc (nd 2 pc (nd 1 pc (lf 0 pc (oCst 0 1)) (lf 1 pc (oISt 1 2))) (nd 3 pc (lf 2 pc (oCst 0 3)) (nd 4 pc (lf 3 pc (oISt 2 4)) (lf 4 pc (lockO (oILd 2 5) 0))))) (nd 9 pc (nd 6 pc (lf 5 pc (oALd 0 6)) (lf 6 pc (oGetI 0 7 9))) (nd 12 pc (lf 9 pc (oCpLt 12 30)) (nd 13 pc (lf 12 pc (oILd 1 13)) (lf 13 pc (oALd 0 14)))))) (nd 23 pc (nd 18 pc (nd 17 pc (lf 14 pc (oGetR 0 8 17)) (lf 17 pc (oILd 2 18))) (nd 19 pc (lf 18 pc (oAAL 7 19)) (nd 22 pc (lf 19 pc (oGetI 1 3 22)) (lf 22 pc (oBin (fun x y => x + y) 23))))) (nd 27 pc (nd 24 pc (lf 23 pc (oISt 1 24)) (lf 24 pc (oInc 2 1 27))) (nd 30 pc (lf 27 pc (oGo 4)) (nd 31 pc (lf 30 pc (oILd 1 31)) (lf 31 pc (oIRet))))))
theorem ok_X0_wrongs {l : Launch} {G : Gm} : ∀ pc, OkU (TXm l G (rmD 1) 3 cX0_wrongs RX0) (RXm l G (rmD 1) 3 cX0_wrongs RX0 (some .int)) pc (P_X0_wrongs pc) := fun pc => ok_nd (ok_nd (ok_nd (ok_nd (ok_lf (ok_ICst d_X0_wrongs_0 (by decide) rfl)) (ok_lf (ok_IStn d_X0_wrongs_1 rfl rfl))) (ok_nd (ok_lf (ok_ICst d_X0_wrongs_2 (by decide) rfl)) (ok_nd (ok_lf (ok_IStn d_X0_wrongs_3 rfl rfl)) (ok_lf (ok_lk (ok_ILdn d_X0_wrongs_4 rfl rfl)))))) (ok_nd (ok_nd (ok_lf (ok_ALdn d_X0_wrongs_5 rfl rfl)) (ok_lf (ok_GetI (by decide) (by decide) rfl d_X0_wrongs_6 q84 rfl))) (ok_nd (ok_lf (ok_CpGe d_X0_wrongs_9 (by decide) rfl)) (ok_nd (ok_lf (ok_ILdn d_X0_wrongs_12 rfl rfl)) (ok_lf (ok_ALdn d_X0_wrongs_13 rfl rfl)))))) (ok_nd (ok_nd (ok_nd (ok_lf (ok_GetR (by decide) (by decide) rfl d_X0_wrongs_14 q86 rfl)) (ok_lf (ok_ILdn d_X0_wrongs_17 rfl rfl))) (ok_nd (ok_lf (ok_AAL (by decide) (by decide) d_X0_wrongs_18 rfl)) (ok_nd (ok_lf (ok_GetIN (by decide) (by decide) rfl d_X0_wrongs_19 q45 rfl)) (ok_lf (ok_iadd d_X0_wrongs_22 rfl))))) (ok_nd (ok_nd (ok_lf (ok_IStn d_X0_wrongs_23 rfl rfl)) (ok_lf (ok_Inc d_X0_wrongs_24 (by decide) rfl))) (ok_nd (ok_lf (ok_Go d_X0_wrongs_27 (by decide))) (ok_nd (ok_lf (ok_ILdn d_X0_wrongs_30 rfl rfl)) (ok_lf (ok_IRet d_X0_wrongs_31))))))
noncomputable def S_X0_wrongs : Sem := lockS (inl P_X0_wrongs 30000 3) 0
theorem su_X0_wrongs {l : Launch} {G : Gm} : SemU l G yX0_wrongs (wsOf yX0_wrongs cX0_wrongs 3 (some .int)) 1 S_X0_wrongs := sem_lock (sem_inl 30000 (by decide +kernel) rfl ok_X0_wrongs)
theorem d_X0_tempers_0 : decode cX0_tempers 0 = .ok (.iconst 0, 1) := by decide +kernel
theorem d_X0_tempers_1 : decode cX0_tempers 1 = .ok (.istore_n 1, 1) := by decide +kernel
theorem d_X0_tempers_2 : decode cX0_tempers 2 = .ok (.iconst 0, 1) := by decide +kernel
theorem d_X0_tempers_3 : decode cX0_tempers 3 = .ok (.istore_n 2, 1) := by decide +kernel
theorem d_X0_tempers_4 : decode cX0_tempers 4 = .ok (.iload_n 2, 1) := by decide +kernel
theorem d_X0_tempers_5 : decode cX0_tempers 5 = .ok (.aload_n 0, 1) := by decide +kernel
theorem d_X0_tempers_6 : decode cX0_tempers 6 = .ok (.getfield 34, 3) := by decide +kernel
theorem d_X0_tempers_9 : decode cX0_tempers 9 = .ok (.if_icmp .ge 21, 3) := by decide +kernel
theorem d_X0_tempers_12 : decode cX0_tempers 12 = .ok (.iload_n 1, 1) := by decide +kernel
theorem d_X0_tempers_13 : decode cX0_tempers 13 = .ok (.aload_n 0, 1) := by decide +kernel
theorem d_X0_tempers_14 : decode cX0_tempers 14 = .ok (.getfield 39, 3) := by decide +kernel
theorem d_X0_tempers_17 : decode cX0_tempers 17 = .ok (.iload_n 2, 1) := by decide +kernel
theorem d_X0_tempers_18 : decode cX0_tempers 18 = .ok (.aaload, 1) := by decide +kernel
theorem d_X0_tempers_19 : decode cX0_tempers 19 = .ok (.getfield 110, 3) := by decide +kernel
theorem d_X0_tempers_22 : decode cX0_tempers 22 = .ok (.iadd, 1) := by decide +kernel
theorem d_X0_tempers_23 : decode cX0_tempers 23 = .ok (.istore_n 1, 1) := by decide +kernel
theorem d_X0_tempers_24 : decode cX0_tempers 24 = .ok (.iinc 2 1, 3) := by decide +kernel
theorem d_X0_tempers_27 : decode cX0_tempers 27 = .ok (.goto (-23), 3) := by decide +kernel
theorem d_X0_tempers_30 : decode cX0_tempers 30 = .ok (.iload_n 1, 1) := by decide +kernel
theorem d_X0_tempers_31 : decode cX0_tempers 31 = .ok (.ireturn, 1) := by decide +kernel
noncomputable def P_X0_tempers : Nat → Op := fun pc => nd 14 pc (nd 5 pc (nd 2 pc (nd 1 pc (lf 0 pc (oCst 0 1)) (lf 1 pc (oISt 1 2))) (nd 3 pc (lf 2 pc (oCst 0 3)) (nd 4 pc (lf 3 pc (oISt 2 4)) (lf 4 pc (lockO (oILd 2 5) 0))))) (nd 9 pc (nd 6 pc (lf 5 pc (oALd 0 6)) (lf 6 pc (oGetI 0 7 9))) (nd 12 pc (lf 9 pc (oCpLt 12 30)) (nd 13 pc (lf 12 pc (oILd 1 13)) (lf 13 pc (oALd 0 14)))))) (nd 23 pc (nd 18 pc (nd 17 pc (lf 14 pc (oGetR 0 8 17)) (lf 17 pc (oILd 2 18))) (nd 19 pc (lf 18 pc (oAAL 7 19)) (nd 22 pc (lf 19 pc (oGetI 1 2 22)) (lf 22 pc (oBin (fun x y => x + y) 23))))) (nd 27 pc (nd 24 pc (lf 23 pc (oISt 1 24)) (lf 24 pc (oInc 2 1 27))) (nd 30 pc (lf 27 pc (oGo 4)) (nd 31 pc (lf 30 pc (oILd 1 31)) (lf 31 pc (oIRet))))))
theorem ok_X0_tempers {l : Launch} {G : Gm} : ∀ pc, OkU (TXm l G (rmD 1) 3 cX0_tempers RX0) (RXm l G (rmD 1) 3 cX0_tempers RX0 (some .int)) pc (P_X0_tempers pc) := fun pc => ok_nd (ok_nd (ok_nd (ok_nd (ok_lf (ok_ICst d_X0_tempers_0 (by decide) rfl)) (ok_lf (ok_IStn d_X0_tempers_1 rfl rfl))) (ok_nd (ok_lf (ok_ICst d_X0_tempers_2 (by decide) rfl)) (ok_nd (ok_lf (ok_IStn d_X0_tempers_3 rfl rfl)) (ok_lf (ok_lk (ok_ILdn d_X0_tempers_4 rfl rfl)))))) (ok_nd (ok_nd (ok_lf (ok_ALdn d_X0_tempers_5 rfl rfl)) (ok_lf (ok_GetI (by decide) (by decide) rfl d_X0_tempers_6 q84 rfl))) (ok_nd (ok_lf (ok_CpGe d_X0_tempers_9 (by decide) rfl)) (ok_nd (ok_lf (ok_ILdn d_X0_tempers_12 rfl rfl)) (ok_lf (ok_ALdn d_X0_tempers_13 rfl rfl)))))) (ok_nd (ok_nd (ok_nd (ok_lf (ok_GetR (by decide) (by decide) rfl d_X0_tempers_14 q86 rfl)) (ok_lf (ok_ILdn d_X0_tempers_17 rfl rfl))) (ok_nd (ok_lf (ok_AAL (by decide) (by decide) d_X0_tempers_18 rfl)) (ok_nd (ok_lf (ok_GetIN (by decide) (by decide) rfl d_X0_tempers_19 q42 rfl)) (ok_lf (ok_iadd d_X0_tempers_22 rfl))))) (ok_nd (ok_nd (ok_lf (ok_IStn d_X0_tempers_23 rfl rfl)) (ok_lf (ok_Inc d_X0_tempers_24 (by decide) rfl))) (ok_nd (ok_lf (ok_Go d_X0_tempers_27 (by decide))) (ok_nd (ok_lf (ok_ILdn d_X0_tempers_30 rfl rfl)) (ok_lf (ok_IRet d_X0_tempers_31))))))
noncomputable def S_X0_tempers : Sem := lockS (inl P_X0_tempers 30000 3) 0
theorem su_X0_tempers {l : Launch} {G : Gm} : SemU l G yX0_tempers (wsOf yX0_tempers cX0_tempers 3 (some .int)) 1 S_X0_tempers := sem_lock (sem_inl 30000 (by decide +kernel) rfl ok_X0_tempers)
theorem d_X0_moreWrong_0 : decode cX0_moreWrong 0 = .ok (.iconst 0, 1) := by decide +kernel
theorem d_X0_moreWrong_1 : decode cX0_moreWrong 1 = .ok (.istore_n 1, 1) := by decide +kernel
theorem d_X0_moreWrong_2 : decode cX0_moreWrong 2 = .ok (.iconst 0, 1) := by decide +kernel
theorem d_X0_moreWrong_3 : decode cX0_moreWrong 3 = .ok (.istore_n 2, 1) := by decide +kernel
theorem d_X0_moreWrong_4 : decode cX0_moreWrong 4 = .ok (.iload_n 2, 1) := by decide +kernel
theorem d_X0_moreWrong_5 : decode cX0_moreWrong 5 = .ok (.aload_n 0, 1) := by decide +kernel
theorem d_X0_moreWrong_6 : decode cX0_moreWrong 6 = .ok (.getfield 34, 3) := by decide +kernel
theorem d_X0_moreWrong_9 : decode cX0_moreWrong 9 = .ok (.if_icmp .ge 36, 3) := by decide +kernel
theorem d_X0_moreWrong_12 : decode cX0_moreWrong 12 = .ok (.aload_n 0, 1) := by decide +kernel
theorem d_X0_moreWrong_13 : decode cX0_moreWrong 13 = .ok (.getfield 39, 3) := by decide +kernel
theorem d_X0_moreWrong_16 : decode cX0_moreWrong 16 = .ok (.iload_n 2, 1) := by decide +kernel
theorem d_X0_moreWrong_17 : decode cX0_moreWrong 17 = .ok (.aaload, 1) := by decide +kernel
theorem d_X0_moreWrong_18 : decode cX0_moreWrong 18 = .ok (.getfield 107, 3) := by decide +kernel
theorem d_X0_moreWrong_21 : decode cX0_moreWrong 21 = .ok (.aload_n 0, 1) := by decide +kernel
theorem d_X0_moreWrong_22 : decode cX0_moreWrong 22 = .ok (.getfield 39, 3) := by decide +kernel
theorem d_X0_moreWrong_25 : decode cX0_moreWrong 25 = .ok (.iload_n 2, 1) := by decide +kernel
theorem d_X0_moreWrong_26 : decode cX0_moreWrong 26 = .ok (.aaload, 1) := by decide +kernel
theorem d_X0_moreWrong_27 : decode cX0_moreWrong 27 = .ok (.getfield 113, 3) := by decide +kernel
theorem d_X0_moreWrong_30 : decode cX0_moreWrong 30 = .ok (.if_icmp .le 9, 3) := by decide +kernel
theorem d_X0_moreWrong_33 : decode cX0_moreWrong 33 = .ok (.iload_n 1, 1) := by decide +kernel
theorem d_X0_moreWrong_34 : decode cX0_moreWrong 34 = .ok (.iconst 1, 1) := by decide +kernel
theorem d_X0_moreWrong_35 : decode cX0_moreWrong 35 = .ok (.iload_n 2, 1) := by decide +kernel
theorem d_X0_moreWrong_36 : decode cX0_moreWrong 36 = .ok (.ishl, 1) := by decide +kernel
theorem d_X0_moreWrong_37 : decode cX0_moreWrong 37 = .ok (.ior, 1) := by decide +kernel
theorem d_X0_moreWrong_38 : decode cX0_moreWrong 38 = .ok (.istore_n 1, 1) := by decide +kernel
theorem d_X0_moreWrong_39 : decode cX0_moreWrong 39 = .ok (.iinc 2 1, 3) := by decide +kernel
theorem d_X0_moreWrong_42 : decode cX0_moreWrong 42 = .ok (.goto (-38), 3) := by decide +kernel
theorem d_X0_moreWrong_45 : decode cX0_moreWrong 45 = .ok (.iload_n 1, 1) := by decide +kernel
theorem d_X0_moreWrong_46 : decode cX0_moreWrong 46 = .ok (.ireturn, 1) := by decide +kernel
noncomputable def P_X0_moreWrong : Nat → Op := fun pc => nd 22 pc (nd 9 pc (nd 3 pc (nd 1 pc (lf 0 pc (oCst 0 1)) (nd 2 pc (lf 1 pc (oISt 1 2)) (lf 2 pc (oCst 0 3)))) (nd 5 pc (nd 4 pc (lf 3 pc (oISt 2 4)) (lf 4 pc (lockO (oILd 2 5) 0))) (nd 6 pc (lf 5 pc (oALd 0 6)) (lf 6 pc (oGetI 0 7 9))))) (nd 16 pc (nd 12 pc (lf 9 pc (oCpLt 12 45)) (nd 13 pc (lf 12 pc (oALd 0 13)) (lf 13 pc (oGetR 0 8 16)))) (nd 18 pc (nd 17 pc (lf 16 pc (oILd 2 17)) (lf 17 pc (oAAL 7 18))) (nd 21 pc (lf 18 pc (oGetI 1 3 21)) (lf 21 pc (oALd 0 22)))))) (nd 35 pc (nd 27 pc (nd 25 pc (lf 22 pc (oGetR 0 8 25)) (nd 26 pc (lf 25 pc (oILd 2 26)) (lf 26 pc (oAAL 7 27)))) (nd 33 pc (nd 30 pc (lf 27 pc (oGetI 1 4 30)) (lf 30 pc (oCpGt 33 39))) (nd 34 pc (lf 33 pc (oILd 1 34)) (lf 34 pc (oCst 1 35))))) (nd 39 pc (nd 37 pc (nd 36 pc (lf 35 pc (oILd 2 36)) (lf 36 pc (oBin (fun x y => x <<< (y &&& 31)) 37))) (nd 38 pc (lf 37 pc (oBin (fun x y => x ||| y) 38)) (lf 38 pc (oISt 1 39)))) (nd 45 pc (nd 42 pc (lf 39 pc (oInc 2 1 42)) (lf 42 pc (oGo 4))) (nd 46 pc (lf 45 pc (oILd 1 46)) (lf 46 pc (oIRet))))))
theorem ok_X0_moreWrong {l : Launch} {G : Gm} : ∀ pc, OkU (TXm l G (rmD 1) 3 cX0_moreWrong RX0) (RXm l G (rmD 1) 3 cX0_moreWrong RX0 (some .int)) pc (P_X0_moreWrong pc) := fun pc => ok_nd (ok_nd (ok_nd (ok_nd (ok_lf (ok_ICst d_X0_moreWrong_0 (by decide) rfl)) (ok_nd (ok_lf (ok_IStn d_X0_moreWrong_1 rfl rfl)) (ok_lf (ok_ICst d_X0_moreWrong_2 (by decide) rfl)))) (ok_nd (ok_nd (ok_lf (ok_IStn d_X0_moreWrong_3 rfl rfl)) (ok_lf (ok_lk (ok_ILdn d_X0_moreWrong_4 rfl rfl)))) (ok_nd (ok_lf (ok_ALdn d_X0_moreWrong_5 rfl rfl)) (ok_lf (ok_GetI (by decide) (by decide) rfl d_X0_moreWrong_6 q84 rfl))))) (ok_nd (ok_nd (ok_lf (ok_CpGe d_X0_moreWrong_9 (by decide) rfl)) (ok_nd (ok_lf (ok_ALdn d_X0_moreWrong_12 rfl rfl)) (ok_lf (ok_GetR (by decide) (by decide) rfl d_X0_moreWrong_13 q86 rfl)))) (ok_nd (ok_nd (ok_lf (ok_ILdn d_X0_moreWrong_16 rfl rfl)) (ok_lf (ok_AAL (by decide) (by decide) d_X0_moreWrong_17 rfl))) (ok_nd (ok_lf (ok_GetIN (by decide) (by decide) rfl d_X0_moreWrong_18 q45 rfl)) (ok_lf (ok_ALdn d_X0_moreWrong_21 rfl rfl)))))) (ok_nd (ok_nd (ok_nd (ok_lf (ok_GetR (by decide) (by decide) rfl d_X0_moreWrong_22 q86 rfl)) (ok_nd (ok_lf (ok_ILdn d_X0_moreWrong_25 rfl rfl)) (ok_lf (ok_AAL (by decide) (by decide) d_X0_moreWrong_26 rfl)))) (ok_nd (ok_nd (ok_lf (ok_GetIN (by decide) (by decide) rfl d_X0_moreWrong_27 q48 rfl)) (ok_lf (ok_CpLe d_X0_moreWrong_30 (by decide) rfl))) (ok_nd (ok_lf (ok_ILdn d_X0_moreWrong_33 rfl rfl)) (ok_lf (ok_ICst d_X0_moreWrong_34 (by decide) rfl))))) (ok_nd (ok_nd (ok_nd (ok_lf (ok_ILdn d_X0_moreWrong_35 rfl rfl)) (ok_lf (ok_ishl d_X0_moreWrong_36 rfl))) (ok_nd (ok_lf (ok_ior d_X0_moreWrong_37 rfl)) (ok_lf (ok_IStn d_X0_moreWrong_38 rfl rfl)))) (ok_nd (ok_nd (ok_lf (ok_Inc d_X0_moreWrong_39 (by decide) rfl)) (ok_lf (ok_Go d_X0_moreWrong_42 (by decide)))) (ok_nd (ok_lf (ok_ILdn d_X0_moreWrong_45 rfl rfl)) (ok_lf (ok_IRet d_X0_moreWrong_46))))))
noncomputable def S_X0_moreWrong : Sem := lockS (inl P_X0_moreWrong 30000 3) 0
theorem su_X0_moreWrong {l : Launch} {G : Gm} : SemU l G yX0_moreWrong (wsOf yX0_moreWrong cX0_moreWrong 3 (some .int)) 1 S_X0_moreWrong := sem_lock (sem_inl 30000 (by decide +kernel) rfl ok_X0_moreWrong)
theorem d_X0_silents_0 : decode cX0_silents 0 = .ok (.iconst 0, 1) := by decide +kernel
theorem d_X0_silents_1 : decode cX0_silents 1 = .ok (.istore_n 1, 1) := by decide +kernel
theorem d_X0_silents_2 : decode cX0_silents 2 = .ok (.iconst 0, 1) := by decide +kernel
theorem d_X0_silents_3 : decode cX0_silents 3 = .ok (.istore_n 2, 1) := by decide +kernel
theorem d_X0_silents_4 : decode cX0_silents 4 = .ok (.iload_n 2, 1) := by decide +kernel
theorem d_X0_silents_5 : decode cX0_silents 5 = .ok (.aload_n 0, 1) := by decide +kernel
theorem d_X0_silents_6 : decode cX0_silents 6 = .ok (.getfield 34, 3) := by decide +kernel
theorem d_X0_silents_9 : decode cX0_silents 9 = .ok (.if_icmp .ge 28, 3) := by decide +kernel
theorem d_X0_silents_12 : decode cX0_silents 12 = .ok (.aload_n 0, 1) := by decide +kernel
theorem d_X0_silents_13 : decode cX0_silents 13 = .ok (.getfield 39, 3) := by decide +kernel
theorem d_X0_silents_16 : decode cX0_silents 16 = .ok (.iload_n 2, 1) := by decide +kernel
theorem d_X0_silents_17 : decode cX0_silents 17 = .ok (.aaload, 1) := by decide +kernel
theorem d_X0_silents_18 : decode cX0_silents 18 = .ok (.getfield 62, 3) := by decide +kernel
theorem d_X0_silents_21 : decode cX0_silents 21 = .ok (.iconst 1, 1) := by decide +kernel
theorem d_X0_silents_22 : decode cX0_silents 22 = .ok (.if_icmp .ne 9, 3) := by decide +kernel
theorem d_X0_silents_25 : decode cX0_silents 25 = .ok (.iload_n 1, 1) := by decide +kernel
theorem d_X0_silents_26 : decode cX0_silents 26 = .ok (.iconst 1, 1) := by decide +kernel
theorem d_X0_silents_27 : decode cX0_silents 27 = .ok (.iload_n 2, 1) := by decide +kernel
theorem d_X0_silents_28 : decode cX0_silents 28 = .ok (.ishl, 1) := by decide +kernel
theorem d_X0_silents_29 : decode cX0_silents 29 = .ok (.ior, 1) := by decide +kernel
theorem d_X0_silents_30 : decode cX0_silents 30 = .ok (.istore_n 1, 1) := by decide +kernel
theorem d_X0_silents_31 : decode cX0_silents 31 = .ok (.iinc 2 1, 3) := by decide +kernel
theorem d_X0_silents_34 : decode cX0_silents 34 = .ok (.goto (-30), 3) := by decide +kernel
theorem d_X0_silents_37 : decode cX0_silents 37 = .ok (.iload_n 1, 1) := by decide +kernel
theorem d_X0_silents_38 : decode cX0_silents 38 = .ok (.ireturn, 1) := by decide +kernel
noncomputable def P_X0_silents : Nat → Op := fun pc => nd 18 pc (nd 6 pc (nd 3 pc (nd 1 pc (lf 0 pc (oCst 0 1)) (nd 2 pc (lf 1 pc (oISt 1 2)) (lf 2 pc (oCst 0 3)))) (nd 4 pc (lf 3 pc (oISt 2 4)) (nd 5 pc (lf 4 pc (lockO (oILd 2 5) 0)) (lf 5 pc (oALd 0 6))))) (nd 13 pc (nd 9 pc (lf 6 pc (oGetI 0 7 9)) (nd 12 pc (lf 9 pc (oCpLt 12 37)) (lf 12 pc (oALd 0 13)))) (nd 16 pc (lf 13 pc (oGetR 0 8 16)) (nd 17 pc (lf 16 pc (oILd 2 17)) (lf 17 pc (oAAL 7 18)))))) (nd 28 pc (nd 25 pc (nd 21 pc (lf 18 pc (oGetI 1 5 21)) (nd 22 pc (lf 21 pc (oCst 1 22)) (lf 22 pc (oCpEq 25 31)))) (nd 26 pc (lf 25 pc (oILd 1 26)) (nd 27 pc (lf 26 pc (oCst 1 27)) (lf 27 pc (oILd 2 28))))) (nd 31 pc (nd 29 pc (lf 28 pc (oBin (fun x y => x <<< (y &&& 31)) 29)) (nd 30 pc (lf 29 pc (oBin (fun x y => x ||| y) 30)) (lf 30 pc (oISt 1 31)))) (nd 37 pc (nd 34 pc (lf 31 pc (oInc 2 1 34)) (lf 34 pc (oGo 4))) (nd 38 pc (lf 37 pc (oILd 1 38)) (lf 38 pc (oIRet))))))
theorem ok_X0_silents {l : Launch} {G : Gm} : ∀ pc, OkU (TXm l G (rmD 1) 3 cX0_silents RX0) (RXm l G (rmD 1) 3 cX0_silents RX0 (some .int)) pc (P_X0_silents pc) := fun pc => ok_nd (ok_nd (ok_nd (ok_nd (ok_lf (ok_ICst d_X0_silents_0 (by decide) rfl)) (ok_nd (ok_lf (ok_IStn d_X0_silents_1 rfl rfl)) (ok_lf (ok_ICst d_X0_silents_2 (by decide) rfl)))) (ok_nd (ok_lf (ok_IStn d_X0_silents_3 rfl rfl)) (ok_nd (ok_lf (ok_lk (ok_ILdn d_X0_silents_4 rfl rfl))) (ok_lf (ok_ALdn d_X0_silents_5 rfl rfl))))) (ok_nd (ok_nd (ok_lf (ok_GetI (by decide) (by decide) rfl d_X0_silents_6 q84 rfl)) (ok_nd (ok_lf (ok_CpGe d_X0_silents_9 (by decide) rfl)) (ok_lf (ok_ALdn d_X0_silents_12 rfl rfl)))) (ok_nd (ok_lf (ok_GetR (by decide) (by decide) rfl d_X0_silents_13 q86 rfl)) (ok_nd (ok_lf (ok_ILdn d_X0_silents_16 rfl rfl)) (ok_lf (ok_AAL (by decide) (by decide) d_X0_silents_17 rfl)))))) (ok_nd (ok_nd (ok_nd (ok_lf (ok_GetIN (by decide) (by decide) rfl d_X0_silents_18 q52 rfl)) (ok_nd (ok_lf (ok_ICst d_X0_silents_21 (by decide) rfl)) (ok_lf (ok_CpNe d_X0_silents_22 (by decide) rfl)))) (ok_nd (ok_lf (ok_ILdn d_X0_silents_25 rfl rfl)) (ok_nd (ok_lf (ok_ICst d_X0_silents_26 (by decide) rfl)) (ok_lf (ok_ILdn d_X0_silents_27 rfl rfl))))) (ok_nd (ok_nd (ok_lf (ok_ishl d_X0_silents_28 rfl)) (ok_nd (ok_lf (ok_ior d_X0_silents_29 rfl)) (ok_lf (ok_IStn d_X0_silents_30 rfl rfl)))) (ok_nd (ok_nd (ok_lf (ok_Inc d_X0_silents_31 (by decide) rfl)) (ok_lf (ok_Go d_X0_silents_34 (by decide)))) (ok_nd (ok_lf (ok_ILdn d_X0_silents_37 rfl rfl)) (ok_lf (ok_IRet d_X0_silents_38))))))
noncomputable def S_X0_silents : Sem := lockS (inl P_X0_silents 30000 3) 0
theorem su_X0_silents {l : Launch} {G : Gm} : SemU l G yX0_silents (wsOf yX0_silents cX0_silents 3 (some .int)) 1 S_X0_silents := sem_lock (sem_inl 30000 (by decide +kernel) rfl ok_X0_silents)
theorem d_X0_loudest_0 : decode cX0_loudest 0 = .ok (.iconst (-1), 1) := by decide +kernel
theorem d_X0_loudest_1 : decode cX0_loudest 1 = .ok (.istore_n 1, 1) := by decide +kernel
theorem d_X0_loudest_2 : decode cX0_loudest 2 = .ok (.iconst (-1), 1) := by decide +kernel
theorem d_X0_loudest_3 : decode cX0_loudest 3 = .ok (.istore_n 2, 1) := by decide +kernel
theorem d_X0_loudest_4 : decode cX0_loudest 4 = .ok (.iconst 0, 1) := by decide +kernel
theorem d_X0_loudest_5 : decode cX0_loudest 5 = .ok (.istore_n 3, 1) := by decide +kernel
theorem d_X0_loudest_6 : decode cX0_loudest 6 = .ok (.iload_n 3, 1) := by decide +kernel
theorem d_X0_loudest_7 : decode cX0_loudest 7 = .ok (.aload_n 0, 1) := by decide +kernel
theorem d_X0_loudest_8 : decode cX0_loudest 8 = .ok (.getfield 34, 3) := by decide +kernel
theorem d_X0_loudest_11 : decode cX0_loudest 11 = .ok (.if_icmp .ge 35, 3) := by decide +kernel
theorem d_X0_loudest_14 : decode cX0_loudest 14 = .ok (.aload_n 0, 1) := by decide +kernel
theorem d_X0_loudest_15 : decode cX0_loudest 15 = .ok (.getfield 39, 3) := by decide +kernel
theorem d_X0_loudest_18 : decode cX0_loudest 18 = .ok (.iload_n 3, 1) := by decide +kernel
theorem d_X0_loudest_19 : decode cX0_loudest 19 = .ok (.aaload, 1) := by decide +kernel
theorem d_X0_loudest_20 : decode cX0_loudest 20 = .ok (.aload_n 0, 1) := by decide +kernel
theorem d_X0_loudest_21 : decode cX0_loudest 21 = .ok (.getfield 15, 3) := by decide +kernel
theorem d_X0_loudest_24 : decode cX0_loudest 24 = .ok (.invokevirtual 74, 3) := by decide +kernel
theorem d_X0_loudest_27 : decode cX0_loudest 27 = .ok (.istore 4, 2) := by decide +kernel
theorem d_X0_loudest_29 : decode cX0_loudest 29 = .ok (.iload 4, 2) := by decide +kernel
theorem d_X0_loudest_31 : decode cX0_loudest 31 = .ok (.iload_n 2, 1) := by decide +kernel
theorem d_X0_loudest_32 : decode cX0_loudest 32 = .ok (.if_icmp .le 8, 3) := by decide +kernel
theorem d_X0_loudest_35 : decode cX0_loudest 35 = .ok (.iload_n 3, 1) := by decide +kernel
theorem d_X0_loudest_36 : decode cX0_loudest 36 = .ok (.istore_n 1, 1) := by decide +kernel
theorem d_X0_loudest_37 : decode cX0_loudest 37 = .ok (.iload 4, 2) := by decide +kernel
theorem d_X0_loudest_39 : decode cX0_loudest 39 = .ok (.istore_n 2, 1) := by decide +kernel
theorem d_X0_loudest_40 : decode cX0_loudest 40 = .ok (.iinc 3 1, 3) := by decide +kernel
theorem d_X0_loudest_43 : decode cX0_loudest 43 = .ok (.goto (-37), 3) := by decide +kernel
theorem d_X0_loudest_46 : decode cX0_loudest 46 = .ok (.iload_n 1, 1) := by decide +kernel
theorem d_X0_loudest_47 : decode cX0_loudest 47 = .ok (.ireturn, 1) := by decide +kernel
noncomputable def P_X0_loudest : Nat → Op := fun pc => nd 20 pc (nd 7 pc (nd 3 pc (nd 1 pc (lf 0 pc (oCst (-1) 1)) (nd 2 pc (lf 1 pc (oISt 1 2)) (lf 2 pc (oCst (-1) 3)))) (nd 5 pc (nd 4 pc (lf 3 pc (oISt 2 4)) (lf 4 pc (oCst 0 5))) (nd 6 pc (lf 5 pc (oISt 3 6)) (lf 6 pc (lockO (oILd 3 7) 0))))) (nd 14 pc (nd 8 pc (lf 7 pc (oALd 0 8)) (nd 11 pc (lf 8 pc (oGetI 0 7 11)) (lf 11 pc (oCpLt 14 46)))) (nd 18 pc (nd 15 pc (lf 14 pc (oALd 0 15)) (lf 15 pc (oGetR 0 8 18))) (nd 19 pc (lf 18 pc (oILd 3 19)) (lf 19 pc (oAAL 7 20)))))) (nd 35 pc (nd 27 pc (nd 21 pc (lf 20 pc (oALd 0 21)) (nd 24 pc (lf 21 pc (oGetI 0 1 24)) (lf 24 pc (oCaV 2 1 S_X1_presses 27)))) (nd 31 pc (nd 29 pc (lf 27 pc (oISt 4 29)) (lf 29 pc (oILd 4 31))) (nd 32 pc (lf 31 pc (oILd 2 32)) (lf 32 pc (oCpGt 35 40))))) (nd 40 pc (nd 37 pc (nd 36 pc (lf 35 pc (oILd 3 36)) (lf 36 pc (oISt 1 37))) (nd 39 pc (lf 37 pc (oILd 4 39)) (lf 39 pc (oISt 2 40)))) (nd 46 pc (nd 43 pc (lf 40 pc (oInc 3 1 43)) (lf 43 pc (oGo 6))) (nd 47 pc (lf 46 pc (oILd 1 47)) (lf 47 pc (oIRet))))))
theorem ok_X0_loudest {l : Launch} {G : Gm} : ∀ pc, OkU (TXm l G (rmD 3) 5 cX0_loudest RX0) (RXm l G (rmD 3) 5 cX0_loudest RX0 (some .int)) pc (P_X0_loudest pc) := fun pc => ok_nd (ok_nd (ok_nd (ok_nd (ok_lf (ok_ICst d_X0_loudest_0 (by decide) rfl)) (ok_nd (ok_lf (ok_IStn d_X0_loudest_1 rfl rfl)) (ok_lf (ok_ICst d_X0_loudest_2 (by decide) rfl)))) (ok_nd (ok_nd (ok_lf (ok_IStn d_X0_loudest_3 rfl rfl)) (ok_lf (ok_ICst d_X0_loudest_4 (by decide) rfl))) (ok_nd (ok_lf (ok_IStn d_X0_loudest_5 rfl rfl)) (ok_lf (ok_lk (ok_ILdn d_X0_loudest_6 rfl rfl)))))) (ok_nd (ok_nd (ok_lf (ok_ALdn d_X0_loudest_7 rfl rfl)) (ok_nd (ok_lf (ok_GetI (by decide) (by decide) rfl d_X0_loudest_8 q84 rfl)) (ok_lf (ok_CpGe d_X0_loudest_11 (by decide) rfl)))) (ok_nd (ok_nd (ok_lf (ok_ALdn d_X0_loudest_14 rfl rfl)) (ok_lf (ok_GetR (by decide) (by decide) rfl d_X0_loudest_15 q86 rfl))) (ok_nd (ok_lf (ok_ILdn d_X0_loudest_18 rfl rfl)) (ok_lf (ok_AAL (by decide) (by decide) d_X0_loudest_19 rfl)))))) (ok_nd (ok_nd (ok_nd (ok_lf (ok_ALdn d_X0_loudest_20 rfl rfl)) (ok_nd (ok_lf (ok_GetI (by decide) (by decide) rfl d_X0_loudest_21 q70 rfl)) (ok_lf (ok_CaVN su_X1_presses (by decide) rfl d_X0_loudest_24 q300 q237 z6 q3 q238 ⟨by decide +kernel, by decide +kernel, by decide +kernel⟩ ⟨by decide, by decide⟩ rfl)))) (ok_nd (ok_nd (ok_lf (ok_ISt d_X0_loudest_27 rfl)) (ok_lf (ok_ILd d_X0_loudest_29 rfl))) (ok_nd (ok_lf (ok_ILdn d_X0_loudest_31 rfl rfl)) (ok_lf (ok_CpLe d_X0_loudest_32 (by decide) rfl))))) (ok_nd (ok_nd (ok_nd (ok_lf (ok_ILdn d_X0_loudest_35 rfl rfl)) (ok_lf (ok_IStn d_X0_loudest_36 rfl rfl))) (ok_nd (ok_lf (ok_ILd d_X0_loudest_37 rfl)) (ok_lf (ok_IStn d_X0_loudest_39 rfl rfl)))) (ok_nd (ok_nd (ok_lf (ok_Inc d_X0_loudest_40 (by decide) rfl)) (ok_lf (ok_Go d_X0_loudest_43 (by decide)))) (ok_nd (ok_lf (ok_ILdn d_X0_loudest_46 rfl rfl)) (ok_lf (ok_IRet d_X0_loudest_47))))))
noncomputable def S_X0_loudest : Sem := lockS (inl P_X0_loudest 30000 5) 0
theorem su_X0_loudest {l : Launch} {G : Gm} : SemU l G yX0_loudest (wsOf yX0_loudest cX0_loudest 5 (some .int)) 3 S_X0_loudest := sem_lock (sem_inl 30000 (by decide +kernel) rfl ok_X0_loudest)
theorem d_X0_heldSpots_0 : decode cX0_heldSpots 0 = .ok (.iconst 0, 1) := by decide +kernel
theorem d_X0_heldSpots_1 : decode cX0_heldSpots 1 = .ok (.istore_n 1, 1) := by decide +kernel
theorem d_X0_heldSpots_2 : decode cX0_heldSpots 2 = .ok (.iconst 0, 1) := by decide +kernel
theorem d_X0_heldSpots_3 : decode cX0_heldSpots 3 = .ok (.istore_n 2, 1) := by decide +kernel
theorem d_X0_heldSpots_4 : decode cX0_heldSpots 4 = .ok (.iload_n 2, 1) := by decide +kernel
theorem d_X0_heldSpots_5 : decode cX0_heldSpots 5 = .ok (.bipush 10, 2) := by decide +kernel
theorem d_X0_heldSpots_7 : decode cX0_heldSpots 7 = .ok (.if_icmp .ge 22, 3) := by decide +kernel
theorem d_X0_heldSpots_10 : decode cX0_heldSpots 10 = .ok (.aload_n 0, 1) := by decide +kernel
theorem d_X0_heldSpots_11 : decode cX0_heldSpots 11 = .ok (.getfield 31, 3) := by decide +kernel
theorem d_X0_heldSpots_14 : decode cX0_heldSpots 14 = .ok (.iload_n 2, 1) := by decide +kernel
theorem d_X0_heldSpots_15 : decode cX0_heldSpots 15 = .ok (.iaload, 1) := by decide +kernel
theorem d_X0_heldSpots_16 : decode cX0_heldSpots 16 = .ok (.iconst (-1), 1) := by decide +kernel
theorem d_X0_heldSpots_17 : decode cX0_heldSpots 17 = .ok (.if_icmp .eq 6, 3) := by decide +kernel
theorem d_X0_heldSpots_20 : decode cX0_heldSpots 20 = .ok (.iinc 1 1, 3) := by decide +kernel
theorem d_X0_heldSpots_23 : decode cX0_heldSpots 23 = .ok (.iinc 2 1, 3) := by decide +kernel
theorem d_X0_heldSpots_26 : decode cX0_heldSpots 26 = .ok (.goto (-22), 3) := by decide +kernel
theorem d_X0_heldSpots_29 : decode cX0_heldSpots 29 = .ok (.iload_n 1, 1) := by decide +kernel
theorem d_X0_heldSpots_30 : decode cX0_heldSpots 30 = .ok (.ireturn, 1) := by decide +kernel
noncomputable def P_X0_heldSpots : Nat → Op := fun pc => nd 14 pc (nd 4 pc (nd 2 pc (nd 1 pc (lf 0 pc (oCst 0 1)) (lf 1 pc (oISt 1 2))) (nd 3 pc (lf 2 pc (oCst 0 3)) (lf 3 pc (oISt 2 4)))) (nd 7 pc (nd 5 pc (lf 4 pc (lockO (oILd 2 5) 0)) (lf 5 pc (oCst 10 7))) (nd 10 pc (lf 7 pc (oCpLt 10 29)) (nd 11 pc (lf 10 pc (oALd 0 11)) (lf 11 pc (oGetR 0 6 14)))))) (nd 20 pc (nd 16 pc (nd 15 pc (lf 14 pc (oILd 2 15)) (lf 15 pc (oIAL 16))) (nd 17 pc (lf 16 pc (oCst (-1) 17)) (lf 17 pc (oCpEq 23 20)))) (nd 26 pc (nd 23 pc (lf 20 pc (oInc 1 1 23)) (lf 23 pc (oInc 2 1 26))) (nd 29 pc (lf 26 pc (oGo 4)) (nd 30 pc (lf 29 pc (oILd 1 30)) (lf 30 pc (oIRet))))))
theorem ok_X0_heldSpots {l : Launch} {G : Gm} : ∀ pc, OkU (TXm l G (rmD 1) 3 cX0_heldSpots RX0) (RXm l G (rmD 1) 3 cX0_heldSpots RX0 (some .int)) pc (P_X0_heldSpots pc) := fun pc => ok_nd (ok_nd (ok_nd (ok_nd (ok_lf (ok_ICst d_X0_heldSpots_0 (by decide) rfl)) (ok_lf (ok_IStn d_X0_heldSpots_1 rfl rfl))) (ok_nd (ok_lf (ok_ICst d_X0_heldSpots_2 (by decide) rfl)) (ok_lf (ok_IStn d_X0_heldSpots_3 rfl rfl)))) (ok_nd (ok_nd (ok_lf (ok_lk (ok_ILdn d_X0_heldSpots_4 rfl rfl))) (ok_lf (ok_BCst d_X0_heldSpots_5 (by decide) rfl))) (ok_nd (ok_lf (ok_CpGe d_X0_heldSpots_7 (by decide) rfl)) (ok_nd (ok_lf (ok_ALdn d_X0_heldSpots_10 rfl rfl)) (ok_lf (ok_GetR (by decide) (by decide) rfl d_X0_heldSpots_11 q82 rfl)))))) (ok_nd (ok_nd (ok_nd (ok_lf (ok_ILdn d_X0_heldSpots_14 rfl rfl)) (ok_lf (ok_IAL d_X0_heldSpots_15 rfl))) (ok_nd (ok_lf (ok_ICst d_X0_heldSpots_16 (by decide) rfl)) (ok_lf (ok_CpEq d_X0_heldSpots_17 (by decide) rfl)))) (ok_nd (ok_nd (ok_lf (ok_Inc d_X0_heldSpots_20 (by decide) rfl)) (ok_lf (ok_Inc d_X0_heldSpots_23 (by decide) rfl))) (ok_nd (ok_lf (ok_Go d_X0_heldSpots_26 (by decide))) (ok_nd (ok_lf (ok_ILdn d_X0_heldSpots_29 rfl rfl)) (ok_lf (ok_IRet d_X0_heldSpots_30))))))
noncomputable def S_X0_heldSpots : Sem := lockS (inl P_X0_heldSpots 30000 3) 0
theorem su_X0_heldSpots {l : Launch} {G : Gm} : SemU l G yX0_heldSpots (wsOf yX0_heldSpots cX0_heldSpots 3 (some .int)) 1 S_X0_heldSpots := sem_lock (sem_inl 30000 (by decide +kernel) rfl ok_X0_heldSpots)
