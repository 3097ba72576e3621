theorem d_X4_isSheet_0 : decode cX4_isSheet 0 = .ok (.iload_n 0, 1) := by decide +kernel
theorem d_X4_isSheet_1 : decode cX4_isSheet 1 = .ok (.iconst 0, 1) := by decide +kernel
theorem d_X4_isSheet_2 : decode cX4_isSheet 2 = .ok (.iconst 3, 1) := by decide +kernel
theorem d_X4_isSheet_3 : decode cX4_isSheet 3 = .ok (.invokestatic 44, 3) := by decide +kernel
theorem d_X4_isSheet_6 : decode cX4_isSheet 6 = .ok (.ireturn, 1) := by decide +kernel
noncomputable def P_X4_isSheet : Nat → Op := fun pc => nd 2 pc (nd 1 pc (lf 0 pc (oILd 0 1)) (lf 1 pc (oCst 0 2))) (nd 3 pc (lf 2 pc (oCst 3 3)) (nd 6 pc (lf 3 pc (oCaS 3 S_X4_isWithin 6)) (lf 6 pc (oZRet))))
theorem ok_X4_isSheet {l : Launch} {G : Gm} : ∀ pc, OkU (TXm l G (rmD 2) 1 cX4_isSheet RX4) (RXm l G (rmD 2) 1 cX4_isSheet RX4 (some .boolean)) pc (P_X4_isSheet pc) := fun pc => ok_nd (ok_nd (ok_lf (ok_ILdn d_X4_isSheet_0 rfl rfl)) (ok_lf (ok_ICst d_X4_isSheet_1 (by decide) rfl))) (ok_nd (ok_lf (ok_ICst d_X4_isSheet_2 (by decide) rfl)) (ok_nd (ok_lf (ok_CaS su_X4_isWithin d_X4_isSheet_3 q180 q181 q1 q182 ⟨by decide +kernel, by decide +kernel, by decide +kernel⟩ ⟨by decide, by decide⟩ rfl)) (ok_lf (ok_ZRet d_X4_isSheet_6))))
noncomputable def S_X4_isSheet : Sem := inl P_X4_isSheet 7 1
theorem su_X4_isSheet {l : Launch} {G : Gm} : SemU l G yX4_isSheet (wsOf yX4_isSheet cX4_isSheet 1 (some .boolean)) 2 S_X4_isSheet := sem_inl 7 (by decide +kernel) rfl ok_X4_isSheet
theorem d_X4_findingOfSheet_0 : decode cX4_findingOfSheet 0 = .ok (.iload_n 1, 1) := by decide +kernel
theorem d_X4_findingOfSheet_1 : decode cX4_findingOfSheet 1 = .ok (.invokestatic 206, 3) := by decide +kernel
theorem d_X4_findingOfSheet_4 : decode cX4_findingOfSheet 4 = .ok (.ifCond .ne 6, 3) := by decide +kernel
theorem d_X4_findingOfSheet_7 : decode cX4_findingOfSheet 7 = .ok (.ldc 55, 2) := by decide +kernel
theorem d_X4_findingOfSheet_9 : decode cX4_findingOfSheet 9 = .ok (.ireturn, 1) := by decide +kernel
theorem d_X4_findingOfSheet_10 : decode cX4_findingOfSheet 10 = .ok (.aload_n 0, 1) := by decide +kernel
theorem d_X4_findingOfSheet_11 : decode cX4_findingOfSheet 11 = .ok (.getfield 35, 3) := by decide +kernel
theorem d_X4_findingOfSheet_14 : decode cX4_findingOfSheet 14 = .ok (.iload_n 1, 1) := by decide +kernel
theorem d_X4_findingOfSheet_15 : decode cX4_findingOfSheet 15 = .ok (.aaload, 1) := by decide +kernel
theorem d_X4_findingOfSheet_16 : decode cX4_findingOfSheet 16 = .ok (.invokevirtual 218, 3) := by decide +kernel
theorem d_X4_findingOfSheet_19 : decode cX4_findingOfSheet 19 = .ok (.ifCond .eq 8, 3) := by decide +kernel
theorem d_X4_findingOfSheet_22 : decode cX4_findingOfSheet 22 = .ok (.ldc 201, 2) := by decide +kernel
theorem d_X4_findingOfSheet_24 : decode cX4_findingOfSheet 24 = .ok (.goto 4, 3) := by decide +kernel
theorem d_X4_findingOfSheet_27 : decode cX4_findingOfSheet 27 = .ok (.iconst 0, 1) := by decide +kernel
theorem d_X4_findingOfSheet_28 : decode cX4_findingOfSheet 28 = .ok (.ireturn, 1) := by decide +kernel
noncomputable def P_X4_findingOfSheet : Nat → Op := fun pc => nd 14 pc (nd 7 pc (nd 1 pc (lf 0 pc (oILd 1 1)) (nd 4 pc (lf 1 pc (oCaS 1 S_X4_isSheet 4)) (lf 4 pc (oIfEq 7 10)))) (nd 10 pc (nd 9 pc (lf 7 pc (oCst (-1000001) 9)) (lf 9 pc (oIRet))) (nd 11 pc (lf 10 pc (oALd 0 11)) (lf 11 pc (oGetR 4 5 14))))) (nd 22 pc (nd 16 pc (nd 15 pc (lf 14 pc (oILd 1 15)) (lf 15 pc (oAAL 8 16))) (nd 19 pc (lf 16 pc (oCaV 1 2 S_X2_isMissing 19)) (lf 19 pc (oIfEq 27 22)))) (nd 27 pc (nd 24 pc (lf 22 pc (oCst (-1000006) 24)) (lf 24 pc (oGo 28))) (nd 28 pc (lf 27 pc (oCst 0 28)) (lf 28 pc (oIRet)))))
theorem ok_X4_findingOfSheet {l : Launch} {G : Gm} : ∀ pc, OkU (TXm l G (rmD 3) 2 cX4_findingOfSheet RX4) (RXm l G (rmD 3) 2 cX4_findingOfSheet RX4 (some .int)) pc (P_X4_findingOfSheet pc) := fun pc => ok_nd (ok_nd (ok_nd (ok_lf (ok_ILdn d_X4_findingOfSheet_0 rfl rfl)) (ok_nd (ok_lf (ok_CaS su_X4_isSheet d_X4_findingOfSheet_1 q450 q451 q1 q452 ⟨by decide +kernel, by decide +kernel, by decide +kernel⟩ ⟨by decide, by decide⟩ rfl)) (ok_lf (ok_IfNe d_X4_findingOfSheet_4 (by decide) rfl)))) (ok_nd (ok_nd (ok_lf (ok_Ldc d_X4_findingOfSheet_7 q183 rfl)) (ok_lf (ok_IRet d_X4_findingOfSheet_9))) (ok_nd (ok_lf (ok_ALdn d_X4_findingOfSheet_10 rfl rfl)) (ok_lf (ok_GetR (by decide) (by decide) rfl d_X4_findingOfSheet_11 q159 rfl))))) (ok_nd (ok_nd (ok_nd (ok_lf (ok_ILdn d_X4_findingOfSheet_14 rfl rfl)) (ok_lf (ok_AAL (by decide) (by decide) d_X4_findingOfSheet_15 rfl))) (ok_nd (ok_lf (ok_CaVN su_X2_isMissing (by decide) rfl d_X4_findingOfSheet_16 q453 q455 z36 q5 q456 ⟨by decide +kernel, by decide +kernel, by decide +kernel⟩ ⟨by decide, by decide⟩ rfl)) (ok_lf (ok_IfEq d_X4_findingOfSheet_19 (by decide) rfl)))) (ok_nd (ok_nd (ok_lf (ok_Ldc d_X4_findingOfSheet_22 q457 rfl)) (ok_lf (ok_Go d_X4_findingOfSheet_24 (by decide)))) (ok_nd (ok_lf (ok_ICst d_X4_findingOfSheet_27 (by decide) rfl)) (ok_lf (ok_IRet d_X4_findingOfSheet_28)))))
noncomputable def S_X4_findingOfSheet : Sem := inl P_X4_findingOfSheet 17 2
theorem su_X4_findingOfSheet {l : Launch} {G : Gm} : SemU l G yX4_findingOfSheet (wsOf yX4_findingOfSheet cX4_findingOfSheet 2 (some .int)) 3 S_X4_findingOfSheet := sem_inl 17 (by decide +kernel) rfl ok_X4_findingOfSheet
theorem d_X4_findingOfFalls_0 : decode cX4_findingOfFalls 0 = .ok (.aload_n 0, 1) := by decide +kernel
theorem d_X4_findingOfFalls_1 : decode cX4_findingOfFalls 1 = .ok (.iload_n 1, 1) := by decide +kernel
theorem d_X4_findingOfFalls_2 : decode cX4_findingOfFalls 2 = .ok (.invokevirtual 214, 3) := by decide +kernel
theorem d_X4_findingOfFalls_5 : decode cX4_findingOfFalls 5 = .ok (.istore_n 3, 1) := by decide +kernel
theorem d_X4_findingOfFalls_6 : decode cX4_findingOfFalls 6 = .ok (.iload_n 3, 1) := by decide +kernel
theorem d_X4_findingOfFalls_7 : decode cX4_findingOfFalls 7 = .ok (.ifCond .eq 5, 3) := by decide +kernel
theorem d_X4_findingOfFalls_10 : decode cX4_findingOfFalls 10 = .ok (.iload_n 3, 1) := by decide +kernel
theorem d_X4_findingOfFalls_11 : decode cX4_findingOfFalls 11 = .ok (.ireturn, 1) := by decide +kernel
theorem d_X4_findingOfFalls_12 : decode cX4_findingOfFalls 12 = .ok (.aload_n 0, 1) := by decide +kernel
theorem d_X4_findingOfFalls_13 : decode cX4_findingOfFalls 13 = .ok (.getfield 12, 3) := by decide +kernel
theorem d_X4_findingOfFalls_16 : decode cX4_findingOfFalls 16 = .ok (.iload_n 2, 1) := by decide +kernel
theorem d_X4_findingOfFalls_17 : decode cX4_findingOfFalls 17 = .ok (.invokevirtual 82, 3) := by decide +kernel
theorem d_X4_findingOfFalls_20 : decode cX4_findingOfFalls 20 = .ok (.ifCond .eq 7, 3) := by decide +kernel
theorem d_X4_findingOfFalls_23 : decode cX4_findingOfFalls 23 = .ok (.iconst 0, 1) := by decide +kernel
theorem d_X4_findingOfFalls_24 : decode cX4_findingOfFalls 24 = .ok (.goto 5, 3) := by decide +kernel
theorem d_X4_findingOfFalls_27 : decode cX4_findingOfFalls 27 = .ok (.ldc 55, 2) := by decide +kernel
theorem d_X4_findingOfFalls_29 : decode cX4_findingOfFalls 29 = .ok (.ireturn, 1) := by decide +kernel
noncomputable def P_X4_findingOfFalls : Nat → Op := fun pc => nd 12 pc (nd 6 pc (nd 2 pc (nd 1 pc (lf 0 pc (oALd 0 1)) (lf 1 pc (oILd 1 2))) (nd 5 pc (lf 2 pc (oCaV 2 4 S_X4_findingOfSheet 5)) (lf 5 pc (oISt 3 6)))) (nd 10 pc (nd 7 pc (lf 6 pc (oILd 3 7)) (lf 7 pc (oIfEq 12 10))) (nd 11 pc (lf 10 pc (oILd 3 11)) (lf 11 pc (oIRet))))) (nd 20 pc (nd 16 pc (nd 13 pc (lf 12 pc (oALd 0 13)) (lf 13 pc (oGetR 4 0 16))) (nd 17 pc (lf 16 pc (oILd 2 17)) (lf 17 pc (oCaV 2 0 S_X0_has 20)))) (nd 24 pc (nd 23 pc (lf 20 pc (oIfEq 27 23)) (lf 23 pc (oCst 0 24))) (nd 27 pc (lf 24 pc (oGo 29)) (nd 29 pc (lf 27 pc (oCst (-1000001) 29)) (lf 29 pc (oIRet))))))
theorem ok_X4_findingOfFalls {l : Launch} {G : Gm} : ∀ pc, OkU (TXm l G (rmD 4) 4 cX4_findingOfFalls RX4) (RXm l G (rmD 4) 4 cX4_findingOfFalls RX4 (some .int)) pc (P_X4_findingOfFalls pc) := fun pc => ok_nd (ok_nd (ok_nd (ok_nd (ok_lf (ok_ALdn d_X4_findingOfFalls_0 rfl rfl)) (ok_lf (ok_ILdn d_X4_findingOfFalls_1 rfl rfl))) (ok_nd (ok_lf (ok_CaV su_X4_findingOfSheet (by decide) rfl d_X4_findingOfFalls_2 q446 q448 z35 q1 q449 ⟨by decide +kernel, by decide +kernel, by decide +kernel⟩ ⟨by decide, by decide⟩ rfl)) (ok_lf (ok_IStn d_X4_findingOfFalls_5 rfl rfl)))) (ok_nd (ok_nd (ok_lf (ok_ILdn d_X4_findingOfFalls_6 rfl rfl)) (ok_lf (ok_IfEq d_X4_findingOfFalls_7 (by decide) rfl))) (ok_nd (ok_lf (ok_ILdn d_X4_findingOfFalls_10 rfl rfl)) (ok_lf (ok_IRet d_X4_findingOfFalls_11))))) (ok_nd (ok_nd (ok_nd (ok_lf (ok_ALdn d_X4_findingOfFalls_12 rfl rfl)) (ok_lf (ok_GetR (by decide) (by decide) rfl d_X4_findingOfFalls_13 q154 rfl))) (ok_nd (ok_lf (ok_ILdn d_X4_findingOfFalls_16 rfl rfl)) (ok_lf (ok_CaVN su_X0_has (by decide) rfl d_X4_findingOfFalls_17 q227 q229 z4 q2 q230 ⟨by decide +kernel, by decide +kernel, by decide +kernel⟩ ⟨by decide, by decide⟩ rfl)))) (ok_nd (ok_nd (ok_lf (ok_IfEq d_X4_findingOfFalls_20 (by decide) rfl)) (ok_lf (ok_ICst d_X4_findingOfFalls_23 (by decide) rfl))) (ok_nd (ok_lf (ok_Go d_X4_findingOfFalls_24 (by decide))) (ok_nd (ok_lf (ok_Ldc d_X4_findingOfFalls_27 q183 rfl)) (ok_lf (ok_IRet d_X4_findingOfFalls_29))))))
noncomputable def S_X4_findingOfFalls : Sem := inl P_X4_findingOfFalls 19 4
theorem su_X4_findingOfFalls {l : Launch} {G : Gm} : SemU l G yX4_findingOfFalls (wsOf yX4_findingOfFalls cX4_findingOfFalls 4 (some .int)) 4 S_X4_findingOfFalls := sem_inl 19 (by decide +kernel) rfl ok_X4_findingOfFalls
theorem d_X4_trialIsAsTold_0 : decode cX4_trialIsAsTold 0 = .ok (.aload_n 0, 1) := by decide +kernel
theorem d_X4_trialIsAsTold_1 : decode cX4_trialIsAsTold 1 = .ok (.getfield 16, 3) := by decide +kernel
theorem d_X4_trialIsAsTold_4 : decode cX4_trialIsAsTold 4 = .ok (.getfield 87, 3) := by decide +kernel
theorem d_X4_trialIsAsTold_7 : decode cX4_trialIsAsTold 7 = .ok (.iload_n 2, 1) := by decide +kernel
theorem d_X4_trialIsAsTold_8 : decode cX4_trialIsAsTold 8 = .ok (.aaload, 1) := by decide +kernel
theorem d_X4_trialIsAsTold_9 : decode cX4_trialIsAsTold 9 = .ok (.astore_n 3, 1) := by decide +kernel
theorem d_X4_trialIsAsTold_10 : decode cX4_trialIsAsTold 10 = .ok (.iconst 0, 1) := by decide +kernel
theorem d_X4_trialIsAsTold_11 : decode cX4_trialIsAsTold 11 = .ok (.istore 4, 2) := by decide +kernel
theorem d_X4_trialIsAsTold_13 : decode cX4_trialIsAsTold 13 = .ok (.iload 4, 2) := by decide +kernel
theorem d_X4_trialIsAsTold_15 : decode cX4_trialIsAsTold 15 = .ok (.aload_n 1, 1) := by decide +kernel
theorem d_X4_trialIsAsTold_16 : decode cX4_trialIsAsTold 16 = .ok (.getfield 213, 3) := by decide +kernel
theorem d_X4_trialIsAsTold_19 : decode cX4_trialIsAsTold 19 = .ok (.if_icmp .ge 48, 3) := by decide +kernel
theorem d_X4_trialIsAsTold_22 : decode cX4_trialIsAsTold 22 = .ok (.iload 4, 2) := by decide +kernel
theorem d_X4_trialIsAsTold_24 : decode cX4_trialIsAsTold 24 = .ok (.ifCond .le 10, 3) := by decide +kernel
theorem d_X4_trialIsAsTold_27 : decode cX4_trialIsAsTold 27 = .ok (.aload_n 0, 1) := by decide +kernel
theorem d_X4_trialIsAsTold_28 : decode cX4_trialIsAsTold 28 = .ok (.getfield 16, 3) := by decide +kernel
theorem d_X4_trialIsAsTold_31 : decode cX4_trialIsAsTold 31 = .ok (.invokevirtual 118, 3) := by decide +kernel
theorem d_X4_trialIsAsTold_34 : decode cX4_trialIsAsTold 34 = .ok (.aload_n 1, 1) := by decide +kernel
theorem d_X4_trialIsAsTold_35 : decode cX4_trialIsAsTold 35 = .ok (.getfield 227, 3) := by decide +kernel
theorem d_X4_trialIsAsTold_38 : decode cX4_trialIsAsTold 38 = .ok (.iload 4, 2) := by decide +kernel
theorem d_X4_trialIsAsTold_40 : decode cX4_trialIsAsTold 40 = .ok (.iaload, 1) := by decide +kernel
theorem d_X4_trialIsAsTold_41 : decode cX4_trialIsAsTold 41 = .ok (.iconst (-1), 1) := by decide +kernel
theorem d_X4_trialIsAsTold_42 : decode cX4_trialIsAsTold 42 = .ok (.if_icmp .eq 19, 3) := by decide +kernel
theorem d_X4_trialIsAsTold_45 : decode cX4_trialIsAsTold 45 = .ok (.aload_n 1, 1) := by decide +kernel
theorem d_X4_trialIsAsTold_46 : decode cX4_trialIsAsTold 46 = .ok (.getfield 227, 3) := by decide +kernel
theorem d_X4_trialIsAsTold_49 : decode cX4_trialIsAsTold 49 = .ok (.iload 4, 2) := by decide +kernel
theorem d_X4_trialIsAsTold_51 : decode cX4_trialIsAsTold 51 = .ok (.iaload, 1) := by decide +kernel
theorem d_X4_trialIsAsTold_52 : decode cX4_trialIsAsTold 52 = .ok (.aload_n 3, 1) := by decide +kernel
theorem d_X4_trialIsAsTold_53 : decode cX4_trialIsAsTold 53 = .ok (.getfield 236, 3) := by decide +kernel
theorem d_X4_trialIsAsTold_56 : decode cX4_trialIsAsTold 56 = .ok (.if_icmp .eq 5, 3) := by decide +kernel
theorem d_X4_trialIsAsTold_59 : decode cX4_trialIsAsTold 59 = .ok (.iconst 0, 1) := by decide +kernel
theorem d_X4_trialIsAsTold_60 : decode cX4_trialIsAsTold 60 = .ok (.ireturn, 1) := by decide +kernel
theorem d_X4_trialIsAsTold_61 : decode cX4_trialIsAsTold 61 = .ok (.iinc 4 1, 3) := by decide +kernel
theorem d_X4_trialIsAsTold_64 : decode cX4_trialIsAsTold 64 = .ok (.goto (-51), 3) := by decide +kernel
theorem d_X4_trialIsAsTold_67 : decode cX4_trialIsAsTold 67 = .ok (.iconst 1, 1) := by decide +kernel
theorem d_X4_trialIsAsTold_68 : decode cX4_trialIsAsTold 68 = .ok (.ireturn, 1) := by decide +kernel
noncomputable def P_X4_trialIsAsTold : Nat → Op := fun pc => nd 35 pc (nd 15 pc (nd 8 pc (nd 4 pc (nd 1 pc (lf 0 pc (oALd 0 1)) (lf 1 pc (oGetR 4 1 4))) (nd 7 pc (lf 4 pc (oGetR 0 8 7)) (lf 7 pc (oILd 2 8)))) (nd 10 pc (nd 9 pc (lf 8 pc (oAAL 7 9)) (lf 9 pc (oASt 3 10))) (nd 11 pc (lf 10 pc (oCst 0 11)) (nd 13 pc (lf 11 pc (oISt 4 13)) (lf 13 pc (lockO (oILd 4 15) 0)))))) (nd 24 pc (nd 19 pc (nd 16 pc (lf 15 pc (oALd 1 16)) (lf 16 pc (oGetI 2 1 19))) (nd 22 pc (lf 19 pc (oCpLt 22 67)) (lf 22 pc (oILd 4 24)))) (nd 28 pc (nd 27 pc (lf 24 pc (oIfGt 27 34)) (lf 27 pc (oALd 0 28))) (nd 31 pc (lf 28 pc (oGetR 4 1 31)) (nd 34 pc (lf 31 pc (oCaV 1 0 S_X0_dropOnce 34)) (lf 34 pc (oALd 1 35))))))) (nd 52 pc (nd 42 pc (nd 40 pc (nd 38 pc (lf 35 pc (oGetR 2 2 38)) (lf 38 pc (oILd 4 40))) (nd 41 pc (lf 40 pc (oIAL 41)) (lf 41 pc (oCst (-1) 42)))) (nd 46 pc (nd 45 pc (lf 42 pc (oCpEq 61 45)) (lf 45 pc (oALd 1 46))) (nd 49 pc (lf 46 pc (oGetR 2 2 49)) (nd 51 pc (lf 49 pc (oILd 4 51)) (lf 51 pc (oIAL 52)))))) (nd 60 pc (nd 56 pc (nd 53 pc (lf 52 pc (oALd 3 53)) (lf 53 pc (oGetI 1 3 56))) (nd 59 pc (lf 56 pc (oCpEq 61 59)) (lf 59 pc (oCst 0 60)))) (nd 64 pc (nd 61 pc (lf 60 pc (oZRet)) (lf 61 pc (oInc 4 1 64))) (nd 67 pc (lf 64 pc (oGo 13)) (nd 68 pc (lf 67 pc (oCst 1 68)) (lf 68 pc (oZRet)))))))
theorem ok_X4_trialIsAsTold {l : Launch} {G : Gm} : ∀ pc, OkU (TXm l G (rmD 6) 5 cX4_trialIsAsTold RX4) (RXm l G (rmD 6) 5 cX4_trialIsAsTold RX4 (some .boolean)) pc (P_X4_trialIsAsTold pc) := fun pc => ok_nd (ok_nd (ok_nd (ok_nd (ok_nd (ok_lf (ok_ALdn d_X4_trialIsAsTold_0 rfl rfl)) (ok_lf (ok_GetR (by decide) (by decide) rfl d_X4_trialIsAsTold_1 q155 rfl))) (ok_nd (ok_lf (ok_GetRN (by decide) (by decide) rfl d_X4_trialIsAsTold_4 q88 rfl)) (ok_lf (ok_ILdn d_X4_trialIsAsTold_7 rfl rfl)))) (ok_nd (ok_nd (ok_lf (ok_AAL (by decide) (by decide) d_X4_trialIsAsTold_8 rfl)) (ok_lf (ok_AStn d_X4_trialIsAsTold_9 rfl rfl))) (ok_nd (ok_lf (ok_ICst d_X4_trialIsAsTold_10 (by decide) rfl)) (ok_nd (ok_lf (ok_ISt d_X4_trialIsAsTold_11 rfl)) (ok_lf (ok_lk (ok_ILd d_X4_trialIsAsTold_13 rfl))))))) (ok_nd (ok_nd (ok_nd (ok_lf (ok_ALdn d_X4_trialIsAsTold_15 rfl rfl)) (ok_lf (ok_GetIN (by decide) (by decide) rfl d_X4_trialIsAsTold_16 q144 rfl))) (ok_nd (ok_lf (ok_CpGe d_X4_trialIsAsTold_19 (by decide) rfl)) (ok_lf (ok_ILd d_X4_trialIsAsTold_22 rfl)))) (ok_nd (ok_nd (ok_lf (ok_IfLe d_X4_trialIsAsTold_24 (by decide) rfl)) (ok_lf (ok_ALdn d_X4_trialIsAsTold_27 rfl rfl))) (ok_nd (ok_lf (ok_GetR (by decide) (by decide) rfl d_X4_trialIsAsTold_28 q155 rfl)) (ok_nd (ok_lf (ok_CaVN su_X0_dropOnce (by decide) rfl d_X4_trialIsAsTold_31 q308 q310 z17 q2 q311 ⟨by decide +kernel, by decide +kernel, by decide +kernel⟩ ⟨by decide, by decide⟩ rfl)) (ok_lf (ok_ALdn d_X4_trialIsAsTold_34 rfl rfl))))))) (ok_nd (ok_nd (ok_nd (ok_nd (ok_lf (ok_GetRN (by decide) (by decide) rfl d_X4_trialIsAsTold_35 q146 rfl)) (ok_lf (ok_ILd d_X4_trialIsAsTold_38 rfl))) (ok_nd (ok_lf (ok_IAL d_X4_trialIsAsTold_40 rfl)) (ok_lf (ok_ICst d_X4_trialIsAsTold_41 (by decide) rfl)))) (ok_nd (ok_nd (ok_lf (ok_CpEq d_X4_trialIsAsTold_42 (by decide) rfl)) (ok_lf (ok_ALdn d_X4_trialIsAsTold_45 rfl rfl))) (ok_nd (ok_lf (ok_GetRN (by decide) (by decide) rfl d_X4_trialIsAsTold_46 q146 rfl)) (ok_nd (ok_lf (ok_ILd d_X4_trialIsAsTold_49 rfl)) (ok_lf (ok_IAL d_X4_trialIsAsTold_51 rfl)))))) (ok_nd (ok_nd (ok_nd (ok_lf (ok_ALdn d_X4_trialIsAsTold_52 rfl rfl)) (ok_lf (ok_GetIN (by decide) (by decide) rfl d_X4_trialIsAsTold_53 q46 rfl))) (ok_nd (ok_lf (ok_CpEq d_X4_trialIsAsTold_56 (by decide) rfl)) (ok_lf (ok_ICst d_X4_trialIsAsTold_59 (by decide) rfl)))) (ok_nd (ok_nd (ok_lf (ok_ZRet d_X4_trialIsAsTold_60)) (ok_lf (ok_Inc d_X4_trialIsAsTold_61 (by decide) rfl))) (ok_nd (ok_lf (ok_Go d_X4_trialIsAsTold_64 (by decide))) (ok_nd (ok_lf (ok_ICst d_X4_trialIsAsTold_67 (by decide) rfl)) (ok_lf (ok_ZRet d_X4_trialIsAsTold_68)))))))
noncomputable def S_X4_trialIsAsTold : Sem := lockS (inl P_X4_trialIsAsTold 30000 5) 0
theorem su_X4_trialIsAsTold {l : Launch} {G : Gm} : SemU l G yX4_trialIsAsTold (wsOf yX4_trialIsAsTold cX4_trialIsAsTold 5 (some .boolean)) 6 S_X4_trialIsAsTold := sem_lock (sem_inl 30000 (by decide +kernel) rfl ok_X4_trialIsAsTold)
theorem d_X4_fits_0 : decode cX4_fits 0 = .ok (.aload_n 0, 1) := by decide +kernel
theorem d_X4_fits_1 : decode cX4_fits 1 = .ok (.iload_n 1, 1) := by decide +kernel
theorem d_X4_fits_2 : decode cX4_fits 2 = .ok (.iload_n 2, 1) := by decide +kernel
theorem d_X4_fits_3 : decode cX4_fits 3 = .ok (.invokevirtual 174, 3) := by decide +kernel
theorem d_X4_fits_6 : decode cX4_fits 6 = .ok (.istore_n 3, 1) := by decide +kernel
theorem d_X4_fits_7 : decode cX4_fits 7 = .ok (.iload_n 3, 1) := by decide +kernel
theorem d_X4_fits_8 : decode cX4_fits 8 = .ok (.ifCond .eq 9, 3) := by decide +kernel
theorem d_X4_fits_11 : decode cX4_fits 11 = .ok (.aload_n 0, 1) := by decide +kernel
theorem d_X4_fits_12 : decode cX4_fits 12 = .ok (.iload_n 3, 1) := by decide +kernel
theorem d_X4_fits_13 : decode cX4_fits 13 = .ok (.invokevirtual 56, 3) := by decide +kernel
theorem d_X4_fits_16 : decode cX4_fits 16 = .ok (.ireturn, 1) := by decide +kernel
theorem d_X4_fits_17 : decode cX4_fits 17 = .ok (.iconst 0, 1) := by decide +kernel
theorem d_X4_fits_18 : decode cX4_fits 18 = .ok (.istore 4, 2) := by decide +kernel
theorem d_X4_fits_20 : decode cX4_fits 20 = .ok (.iconst 1, 1) := by decide +kernel
theorem d_X4_fits_21 : decode cX4_fits 21 = .ok (.istore 5, 2) := by decide +kernel
theorem d_X4_fits_23 : decode cX4_fits 23 = .ok (.iload 5, 2) := by decide +kernel
theorem d_X4_fits_25 : decode cX4_fits 25 = .ok (.bipush 60, 2) := by decide +kernel
theorem d_X4_fits_27 : decode cX4_fits 27 = .ok (.if_icmp .gt 46, 3) := by decide +kernel
theorem d_X4_fits_30 : decode cX4_fits 30 = .ok (.aload_n 0, 1) := by decide +kernel
theorem d_X4_fits_31 : decode cX4_fits 31 = .ok (.getfield 16, 3) := by decide +kernel
theorem d_X4_fits_34 : decode cX4_fits 34 = .ok (.aload_n 0, 1) := by decide +kernel
theorem d_X4_fits_35 : decode cX4_fits 35 = .ok (.getfield 12, 3) := by decide +kernel
theorem d_X4_fits_38 : decode cX4_fits 38 = .ok (.invokevirtual 140, 3) := by decide +kernel
theorem d_X4_fits_41 : decode cX4_fits 41 = .ok (.aload_n 0, 1) := by decide +kernel
theorem d_X4_fits_42 : decode cX4_fits 42 = .ok (.getfield 16, 3) := by decide +kernel
theorem d_X4_fits_45 : decode cX4_fits 45 = .ok (.iload 5, 2) := by decide +kernel
theorem d_X4_fits_47 : decode cX4_fits 47 = .ok (.putfield 48, 3) := by decide +kernel
theorem d_X4_fits_50 : decode cX4_fits 50 = .ok (.aload_n 0, 1) := by decide +kernel
theorem d_X4_fits_51 : decode cX4_fits 51 = .ok (.aload_n 0, 1) := by decide +kernel
theorem d_X4_fits_52 : decode cX4_fits 52 = .ok (.getfield 35, 3) := by decide +kernel
theorem d_X4_fits_55 : decode cX4_fits 55 = .ok (.iload_n 1, 1) := by decide +kernel
theorem d_X4_fits_56 : decode cX4_fits 56 = .ok (.aaload, 1) := by decide +kernel
theorem d_X4_fits_57 : decode cX4_fits 57 = .ok (.iload_n 2, 1) := by decide +kernel
theorem d_X4_fits_58 : decode cX4_fits 58 = .ok (.invokevirtual 177, 3) := by decide +kernel
theorem d_X4_fits_61 : decode cX4_fits 61 = .ok (.ifCond .eq 6, 3) := by decide +kernel
theorem d_X4_fits_64 : decode cX4_fits 64 = .ok (.iinc 4 1, 3) := by decide +kernel
theorem d_X4_fits_67 : decode cX4_fits 67 = .ok (.iinc 5 1, 3) := by decide +kernel
theorem d_X4_fits_70 : decode cX4_fits 70 = .ok (.goto (-47), 3) := by decide +kernel
theorem d_X4_fits_73 : decode cX4_fits 73 = .ok (.iload 4, 2) := by decide +kernel
theorem d_X4_fits_75 : decode cX4_fits 75 = .ok (.ireturn, 1) := by decide +kernel
noncomputable def P_X4_fits : Nat → Op := fun pc => nd 34 pc (nd 16 pc (nd 7 pc (nd 2 pc (nd 1 pc (lf 0 pc (oALd 0 1)) (lf 1 pc (oILd 1 2))) (nd 3 pc (lf 2 pc (oILd 2 3)) (nd 6 pc (lf 3 pc (oCaV 3 4 S_X4_findingOfFalls 6)) (lf 6 pc (oISt 3 7))))) (nd 11 pc (nd 8 pc (lf 7 pc (oILd 3 8)) (lf 8 pc (oIfEq 17 11))) (nd 12 pc (lf 11 pc (oALd 0 12)) (nd 13 pc (lf 12 pc (oILd 3 13)) (lf 13 pc (oCaV 2 4 S_X4_tell 16)))))) (nd 23 pc (nd 18 pc (nd 17 pc (lf 16 pc (oIRet)) (lf 17 pc (oCst 0 18))) (nd 20 pc (lf 18 pc (oISt 4 20)) (nd 21 pc (lf 20 pc (oCst 1 21)) (lf 21 pc (oISt 5 23))))) (nd 27 pc (nd 25 pc (lf 23 pc (lockO (oILd 5 25) 0)) (lf 25 pc (oCst 60 27))) (nd 30 pc (lf 27 pc (oCpGt 73 30)) (nd 31 pc (lf 30 pc (oALd 0 31)) (lf 31 pc (oGetR 4 1 34))))))) (nd 55 pc (nd 45 pc (nd 38 pc (nd 35 pc (lf 34 pc (oALd 0 35)) (lf 35 pc (oGetR 4 0 38))) (nd 41 pc (lf 38 pc (oCaV 2 0 S_X0_become 41)) (nd 42 pc (lf 41 pc (oALd 0 42)) (lf 42 pc (oGetR 4 1 45))))) (nd 50 pc (nd 47 pc (lf 45 pc (oILd 5 47)) (lf 47 pc (oPutI 0 0 50))) (nd 51 pc (lf 50 pc (oALd 0 51)) (nd 52 pc (lf 51 pc (oALd 0 52)) (lf 52 pc (oGetR 4 5 55)))))) (nd 64 pc (nd 57 pc (nd 56 pc (lf 55 pc (oILd 1 56)) (lf 56 pc (oAAL 8 57))) (nd 58 pc (lf 57 pc (oILd 2 58)) (nd 61 pc (lf 58 pc (oCaV 3 4 S_X4_trialIsAsTold 61)) (lf 61 pc (oIfEq 67 64))))) (nd 70 pc (nd 67 pc (lf 64 pc (oInc 4 1 67)) (lf 67 pc (oInc 5 1 70))) (nd 73 pc (lf 70 pc (oGo 23)) (nd 75 pc (lf 73 pc (oILd 4 75)) (lf 75 pc (oIRet)))))))
theorem ok_X4_fits {l : Launch} {G : Gm} : ∀ pc, OkU (TXm l G (rmD 7) 6 cX4_fits RX4) (RXm l G (rmD 7) 6 cX4_fits RX4 (some .int)) pc (P_X4_fits pc) := fun pc => ok_nd (ok_nd (ok_nd (ok_nd (ok_nd (ok_lf (ok_ALdn d_X4_fits_0 rfl rfl)) (ok_lf (ok_ILdn d_X4_fits_1 rfl rfl))) (ok_nd (ok_lf (ok_ILdn d_X4_fits_2 rfl rfl)) (ok_nd (ok_lf (ok_CaV su_X4_findingOfFalls (by decide) rfl d_X4_fits_3 q442 q444 z34 q1 q445 ⟨by decide +kernel, by decide +kernel, by decide +kernel⟩ ⟨by decide, by decide⟩ rfl)) (ok_lf (ok_IStn d_X4_fits_6 rfl rfl))))) (ok_nd (ok_nd (ok_lf (ok_ILdn d_X4_fits_7 rfl rfl)) (ok_lf (ok_IfEq d_X4_fits_8 (by decide) rfl))) (ok_nd (ok_lf (ok_ALdn d_X4_fits_11 rfl rfl)) (ok_nd (ok_lf (ok_ILdn d_X4_fits_12 rfl rfl)) (ok_lf (ok_CaV su_X4_tell (by decide) rfl d_X4_fits_13 q184 q186 z0 q1 q187 ⟨by decide +kernel, by decide +kernel, by decide +kernel⟩ ⟨by decide, by decide⟩ rfl)))))) (ok_nd (ok_nd (ok_nd (ok_lf (ok_IRet d_X4_fits_16)) (ok_lf (ok_ICst d_X4_fits_17 (by decide) rfl))) (ok_nd (ok_lf (ok_ISt d_X4_fits_18 rfl)) (ok_nd (ok_lf (ok_ICst d_X4_fits_20 (by decide) rfl)) (ok_lf (ok_ISt d_X4_fits_21 rfl))))) (ok_nd (ok_nd (ok_lf (ok_lk (ok_ILd d_X4_fits_23 rfl))) (ok_lf (ok_BCst d_X4_fits_25 (by decide) rfl))) (ok_nd (ok_lf (ok_CpGt d_X4_fits_27 (by decide) rfl)) (ok_nd (ok_lf (ok_ALdn d_X4_fits_30 rfl rfl)) (ok_lf (ok_GetR (by decide) (by decide) rfl d_X4_fits_31 q155 rfl))))))) (ok_nd (ok_nd (ok_nd (ok_nd (ok_lf (ok_ALdn d_X4_fits_34 rfl rfl)) (ok_lf (ok_GetR (by decide) (by decide) rfl d_X4_fits_35 q154 rfl))) (ok_nd (ok_lf (ok_CaVN su_X0_become (by decide) rfl d_X4_fits_38 q365 q367 z28 q2 q368 ⟨by decide +kernel, by decide +kernel, by decide +kernel⟩ ⟨by decide, by decide⟩ rfl)) (ok_nd (ok_lf (ok_ALdn d_X4_fits_41 rfl rfl)) (ok_lf (ok_GetR (by decide) (by decide) rfl d_X4_fits_42 q155 rfl))))) (ok_nd (ok_nd (ok_lf (ok_ILd d_X4_fits_45 rfl)) (ok_lf (ok_PutIN (by decide) (by decide) rfl rfl (by decide +kernel) d_X4_fits_47 q68 rfl))) (ok_nd (ok_lf (ok_ALdn d_X4_fits_50 rfl rfl)) (ok_nd (ok_lf (ok_ALdn d_X4_fits_51 rfl rfl)) (ok_lf (ok_GetR (by decide) (by decide) rfl d_X4_fits_52 q159 rfl)))))) (ok_nd (ok_nd (ok_nd (ok_lf (ok_ILdn d_X4_fits_55 rfl rfl)) (ok_lf (ok_AAL (by decide) (by decide) d_X4_fits_56 rfl))) (ok_nd (ok_lf (ok_ILdn d_X4_fits_57 rfl rfl)) (ok_nd (ok_lf (ok_CaV su_X4_trialIsAsTold (by decide) rfl d_X4_fits_58 q458 q460 z37 q1 q461 ⟨by decide +kernel, by decide +kernel, by decide +kernel⟩ ⟨by decide, by decide⟩ rfl)) (ok_lf (ok_IfEq d_X4_fits_61 (by decide) rfl))))) (ok_nd (ok_nd (ok_lf (ok_Inc d_X4_fits_64 (by decide) rfl)) (ok_lf (ok_Inc d_X4_fits_67 (by decide) rfl))) (ok_nd (ok_lf (ok_Go d_X4_fits_70 (by decide))) (ok_nd (ok_lf (ok_ILd d_X4_fits_73 rfl)) (ok_lf (ok_IRet d_X4_fits_75)))))))
noncomputable def S_X4_fits : Sem := lockS (inl P_X4_fits 30000 6) 0
theorem su_X4_fits {l : Launch} {G : Gm} : SemU l G yX4_fits (wsOf yX4_fits cX4_fits 6 (some .int)) 7 S_X4_fits := sem_lock (sem_inl 30000 (by decide +kernel) rfl ok_X4_fits)
theorem d_X4_height_0 : decode cX4_height 0 = .ok (.aload_n 0, 1) := by decide +kernel
theorem d_X4_height_1 : decode cX4_height 1 = .ok (.iload_n 1, 1) := by decide +kernel
theorem d_X4_height_2 : decode cX4_height 2 = .ok (.iload_n 2, 1) := by decide +kernel
theorem d_X4_height_3 : decode cX4_height 3 = .ok (.invokevirtual 174, 3) := by decide +kernel
theorem d_X4_height_6 : decode cX4_height 6 = .ok (.istore_n 3, 1) := by decide +kernel
theorem d_X4_height_7 : decode cX4_height 7 = .ok (.iload_n 3, 1) := by decide +kernel
theorem d_X4_height_8 : decode cX4_height 8 = .ok (.ifCond .eq 9, 3) := by decide +kernel
theorem d_X4_height_11 : decode cX4_height 11 = .ok (.aload_n 0, 1) := by decide +kernel
theorem d_X4_height_12 : decode cX4_height 12 = .ok (.iload_n 3, 1) := by decide +kernel
theorem d_X4_height_13 : decode cX4_height 13 = .ok (.invokevirtual 56, 3) := by decide +kernel
theorem d_X4_height_16 : decode cX4_height 16 = .ok (.ireturn, 1) := by decide +kernel
theorem d_X4_height_17 : decode cX4_height 17 = .ok (.iconst 1, 1) := by decide +kernel
theorem d_X4_height_18 : decode cX4_height 18 = .ok (.istore 4, 2) := by decide +kernel
theorem d_X4_height_20 : decode cX4_height 20 = .ok (.iload 4, 2) := by decide +kernel
theorem d_X4_height_22 : decode cX4_height 22 = .ok (.bipush 60, 2) := by decide +kernel
theorem d_X4_height_24 : decode cX4_height 24 = .ok (.if_icmp .gt 46, 3) := by decide +kernel
theorem d_X4_height_27 : decode cX4_height 27 = .ok (.aload_n 0, 1) := by decide +kernel
theorem d_X4_height_28 : decode cX4_height 28 = .ok (.getfield 16, 3) := by decide +kernel
theorem d_X4_height_31 : decode cX4_height 31 = .ok (.aload_n 0, 1) := by decide +kernel
theorem d_X4_height_32 : decode cX4_height 32 = .ok (.getfield 12, 3) := by decide +kernel
theorem d_X4_height_35 : decode cX4_height 35 = .ok (.invokevirtual 140, 3) := by decide +kernel
theorem d_X4_height_38 : decode cX4_height 38 = .ok (.aload_n 0, 1) := by decide +kernel
theorem d_X4_height_39 : decode cX4_height 39 = .ok (.getfield 16, 3) := by decide +kernel
theorem d_X4_height_42 : decode cX4_height 42 = .ok (.iload 4, 2) := by decide +kernel
theorem d_X4_height_44 : decode cX4_height 44 = .ok (.putfield 48, 3) := by decide +kernel
theorem d_X4_height_47 : decode cX4_height 47 = .ok (.aload_n 0, 1) := by decide +kernel
theorem d_X4_height_48 : decode cX4_height 48 = .ok (.aload_n 0, 1) := by decide +kernel
theorem d_X4_height_49 : decode cX4_height 49 = .ok (.getfield 35, 3) := by decide +kernel
theorem d_X4_height_52 : decode cX4_height 52 = .ok (.iload_n 1, 1) := by decide +kernel
theorem d_X4_height_53 : decode cX4_height 53 = .ok (.aaload, 1) := by decide +kernel
theorem d_X4_height_54 : decode cX4_height 54 = .ok (.iload_n 2, 1) := by decide +kernel
theorem d_X4_height_55 : decode cX4_height 55 = .ok (.invokevirtual 177, 3) := by decide +kernel
theorem d_X4_height_58 : decode cX4_height 58 = .ok (.ifCond .eq 6, 3) := by decide +kernel
theorem d_X4_height_61 : decode cX4_height 61 = .ok (.iload 4, 2) := by decide +kernel
theorem d_X4_height_63 : decode cX4_height 63 = .ok (.ireturn, 1) := by decide +kernel
theorem d_X4_height_64 : decode cX4_height 64 = .ok (.iinc 4 1, 3) := by decide +kernel
theorem d_X4_height_67 : decode cX4_height 67 = .ok (.goto (-47), 3) := by decide +kernel
theorem d_X4_height_70 : decode cX4_height 70 = .ok (.aload_n 0, 1) := by decide +kernel
theorem d_X4_height_71 : decode cX4_height 71 = .ok (.ldc 115, 2) := by decide +kernel
theorem d_X4_height_73 : decode cX4_height 73 = .ok (.invokevirtual 56, 3) := by decide +kernel
theorem d_X4_height_76 : decode cX4_height 76 = .ok (.ireturn, 1) := by decide +kernel
noncomputable def P_X4_height : Nat → Op := fun pc => nd 35 pc (nd 16 pc (nd 7 pc (nd 2 pc (nd 1 pc (lf 0 pc (oALd 0 1)) (lf 1 pc (oILd 1 2))) (nd 3 pc (lf 2 pc (oILd 2 3)) (nd 6 pc (lf 3 pc (oCaV 3 4 S_X4_findingOfFalls 6)) (lf 6 pc (oISt 3 7))))) (nd 11 pc (nd 8 pc (lf 7 pc (oILd 3 8)) (lf 8 pc (oIfEq 17 11))) (nd 12 pc (lf 11 pc (oALd 0 12)) (nd 13 pc (lf 12 pc (oILd 3 13)) (lf 13 pc (oCaV 2 4 S_X4_tell 16)))))) (nd 24 pc (nd 18 pc (nd 17 pc (lf 16 pc (oIRet)) (lf 17 pc (oCst 1 18))) (nd 20 pc (lf 18 pc (oISt 4 20)) (nd 22 pc (lf 20 pc (lockO (oILd 4 22) 0)) (lf 22 pc (oCst 60 24))))) (nd 28 pc (nd 27 pc (lf 24 pc (oCpGt 70 27)) (lf 27 pc (oALd 0 28))) (nd 31 pc (lf 28 pc (oGetR 4 1 31)) (nd 32 pc (lf 31 pc (oALd 0 32)) (lf 32 pc (oGetR 4 0 35))))))) (nd 54 pc (nd 47 pc (nd 39 pc (nd 38 pc (lf 35 pc (oCaV 2 0 S_X0_become 38)) (lf 38 pc (oALd 0 39))) (nd 42 pc (lf 39 pc (oGetR 4 1 42)) (nd 44 pc (lf 42 pc (oILd 4 44)) (lf 44 pc (oPutI 0 0 47))))) (nd 49 pc (nd 48 pc (lf 47 pc (oALd 0 48)) (lf 48 pc (oALd 0 49))) (nd 52 pc (lf 49 pc (oGetR 4 5 52)) (nd 53 pc (lf 52 pc (oILd 1 53)) (lf 53 pc (oAAL 8 54)))))) (nd 64 pc (nd 58 pc (nd 55 pc (lf 54 pc (oILd 2 55)) (lf 55 pc (oCaV 3 4 S_X4_trialIsAsTold 58))) (nd 61 pc (lf 58 pc (oIfEq 64 61)) (nd 63 pc (lf 61 pc (oILd 4 63)) (lf 63 pc (oIRet))))) (nd 71 pc (nd 67 pc (lf 64 pc (oInc 4 1 67)) (nd 70 pc (lf 67 pc (oGo 20)) (lf 70 pc (oALd 0 71)))) (nd 73 pc (lf 71 pc (oCst (-1000004) 73)) (nd 76 pc (lf 73 pc (oCaV 2 4 S_X4_tell 76)) (lf 76 pc (oIRet)))))))
theorem ok_X4_height {l : Launch} {G : Gm} : ∀ pc, OkU (TXm l G (rmD 7) 5 cX4_height RX4) (RXm l G (rmD 7) 5 cX4_height RX4 (some .int)) pc (P_X4_height pc) := fun pc => ok_nd (ok_nd (ok_nd (ok_nd (ok_nd (ok_lf (ok_ALdn d_X4_height_0 rfl rfl)) (ok_lf (ok_ILdn d_X4_height_1 rfl rfl))) (ok_nd (ok_lf (ok_ILdn d_X4_height_2 rfl rfl)) (ok_nd (ok_lf (ok_CaV su_X4_findingOfFalls (by decide) rfl d_X4_height_3 q442 q444 z34 q1 q445 ⟨by decide +kernel, by decide +kernel, by decide +kernel⟩ ⟨by decide, by decide⟩ rfl)) (ok_lf (ok_IStn d_X4_height_6 rfl rfl))))) (ok_nd (ok_nd (ok_lf (ok_ILdn d_X4_height_7 rfl rfl)) (ok_lf (ok_IfEq d_X4_height_8 (by decide) rfl))) (ok_nd (ok_lf (ok_ALdn d_X4_height_11 rfl rfl)) (ok_nd (ok_lf (ok_ILdn d_X4_height_12 rfl rfl)) (ok_lf (ok_CaV su_X4_tell (by decide) rfl d_X4_height_13 q184 q186 z0 q1 q187 ⟨by decide +kernel, by decide +kernel, by decide +kernel⟩ ⟨by decide, by decide⟩ rfl)))))) (ok_nd (ok_nd (ok_nd (ok_lf (ok_IRet d_X4_height_16)) (ok_lf (ok_ICst d_X4_height_17 (by decide) rfl))) (ok_nd (ok_lf (ok_ISt d_X4_height_18 rfl)) (ok_nd (ok_lf (ok_lk (ok_ILd d_X4_height_20 rfl))) (ok_lf (ok_BCst d_X4_height_22 (by decide) rfl))))) (ok_nd (ok_nd (ok_lf (ok_CpGt d_X4_height_24 (by decide) rfl)) (ok_lf (ok_ALdn d_X4_height_27 rfl rfl))) (ok_nd (ok_lf (ok_GetR (by decide) (by decide) rfl d_X4_height_28 q155 rfl)) (ok_nd (ok_lf (ok_ALdn d_X4_height_31 rfl rfl)) (ok_lf (ok_GetR (by decide) (by decide) rfl d_X4_height_32 q154 rfl))))))) (ok_nd (ok_nd (ok_nd (ok_nd (ok_lf (ok_CaVN su_X0_become (by decide) rfl d_X4_height_35 q365 q367 z28 q2 q368 ⟨by decide +kernel, by decide +kernel, by decide +kernel⟩ ⟨by decide, by decide⟩ rfl)) (ok_lf (ok_ALdn d_X4_height_38 rfl rfl))) (ok_nd (ok_lf (ok_GetR (by decide) (by decide) rfl d_X4_height_39 q155 rfl)) (ok_nd (ok_lf (ok_ILd d_X4_height_42 rfl)) (ok_lf (ok_PutIN (by decide) (by decide) rfl rfl (by decide +kernel) d_X4_height_44 q68 rfl))))) (ok_nd (ok_nd (ok_lf (ok_ALdn d_X4_height_47 rfl rfl)) (ok_lf (ok_ALdn d_X4_height_48 rfl rfl))) (ok_nd (ok_lf (ok_GetR (by decide) (by decide) rfl d_X4_height_49 q159 rfl)) (ok_nd (ok_lf (ok_ILdn d_X4_height_52 rfl rfl)) (ok_lf (ok_AAL (by decide) (by decide) d_X4_height_53 rfl)))))) (ok_nd (ok_nd (ok_nd (ok_lf (ok_ILdn d_X4_height_54 rfl rfl)) (ok_lf (ok_CaV su_X4_trialIsAsTold (by decide) rfl d_X4_height_55 q458 q460 z37 q1 q461 ⟨by decide +kernel, by decide +kernel, by decide +kernel⟩ ⟨by decide, by decide⟩ rfl))) (ok_nd (ok_lf (ok_IfEq d_X4_height_58 (by decide) rfl)) (ok_nd (ok_lf (ok_ILd d_X4_height_61 rfl)) (ok_lf (ok_IRet d_X4_height_63))))) (ok_nd (ok_nd (ok_lf (ok_Inc d_X4_height_64 (by decide) rfl)) (ok_nd (ok_lf (ok_Go d_X4_height_67 (by decide))) (ok_lf (ok_ALdn d_X4_height_70 rfl rfl)))) (ok_nd (ok_lf (ok_Ldc d_X4_height_71 q301 rfl)) (ok_nd (ok_lf (ok_CaV su_X4_tell (by decide) rfl d_X4_height_73 q184 q186 z0 q1 q187 ⟨by decide +kernel, by decide +kernel, by decide +kernel⟩ ⟨by decide, by decide⟩ rfl)) (ok_lf (ok_IRet d_X4_height_76)))))))
noncomputable def S_X4_height : Sem := lockS (inl P_X4_height 30000 5) 0
theorem su_X4_height {l : Launch} {G : Gm} : SemU l G yX4_height (wsOf yX4_height cX4_height 5 (some .int)) 7 S_X4_height := sem_lock (sem_inl 30000 (by decide +kernel) rfl ok_X4_height)
theorem d_X4_kinds_0 : decode cX4_kinds 0 = .ok (.aload_n 0, 1) := by decide +kernel
theorem d_X4_kinds_1 : decode cX4_kinds 1 = .ok (.iload_n 1, 1) := by decide +kernel
theorem d_X4_kinds_2 : decode cX4_kinds 2 = .ok (.iload_n 2, 1) := by decide +kernel
theorem d_X4_kinds_3 : decode cX4_kinds 3 = .ok (.invokevirtual 174, 3) := by decide +kernel
theorem d_X4_kinds_6 : decode cX4_kinds 6 = .ok (.istore_n 3, 1) := by decide +kernel
theorem d_X4_kinds_7 : decode cX4_kinds 7 = .ok (.iload_n 3, 1) := by decide +kernel
theorem d_X4_kinds_8 : decode cX4_kinds 8 = .ok (.ifCond .eq 9, 3) := by decide +kernel
theorem d_X4_kinds_11 : decode cX4_kinds 11 = .ok (.aload_n 0, 1) := by decide +kernel
theorem d_X4_kinds_12 : decode cX4_kinds 12 = .ok (.iload_n 3, 1) := by decide +kernel
theorem d_X4_kinds_13 : decode cX4_kinds 13 = .ok (.invokevirtual 56, 3) := by decide +kernel
theorem d_X4_kinds_16 : decode cX4_kinds 16 = .ok (.ireturn, 1) := by decide +kernel
theorem d_X4_kinds_17 : decode cX4_kinds 17 = .ok (.iconst 0, 1) := by decide +kernel
theorem d_X4_kinds_18 : decode cX4_kinds 18 = .ok (.istore 4, 2) := by decide +kernel
theorem d_X4_kinds_20 : decode cX4_kinds 20 = .ok (.iconst 0, 1) := by decide +kernel
theorem d_X4_kinds_21 : decode cX4_kinds 21 = .ok (.istore 5, 2) := by decide +kernel
theorem d_X4_kinds_23 : decode cX4_kinds 23 = .ok (.iload 5, 2) := by decide +kernel
theorem d_X4_kinds_25 : decode cX4_kinds 25 = .ok (.bipush 6, 2) := by decide +kernel
theorem d_X4_kinds_27 : decode cX4_kinds 27 = .ok (.if_icmp .gt 57, 3) := by decide +kernel
theorem d_X4_kinds_30 : decode cX4_kinds 30 = .ok (.aload_n 0, 1) := by decide +kernel
theorem d_X4_kinds_31 : decode cX4_kinds 31 = .ok (.getfield 16, 3) := by decide +kernel
theorem d_X4_kinds_34 : decode cX4_kinds 34 = .ok (.aload_n 0, 1) := by decide +kernel
theorem d_X4_kinds_35 : decode cX4_kinds 35 = .ok (.getfield 12, 3) := by decide +kernel
theorem d_X4_kinds_38 : decode cX4_kinds 38 = .ok (.invokevirtual 140, 3) := by decide +kernel
theorem d_X4_kinds_41 : decode cX4_kinds 41 = .ok (.aload_n 0, 1) := by decide +kernel
theorem d_X4_kinds_42 : decode cX4_kinds 42 = .ok (.getfield 16, 3) := by decide +kernel
theorem d_X4_kinds_45 : decode cX4_kinds 45 = .ok (.getfield 87, 3) := by decide +kernel
theorem d_X4_kinds_48 : decode cX4_kinds 48 = .ok (.iload_n 2, 1) := by decide +kernel
theorem d_X4_kinds_49 : decode cX4_kinds 49 = .ok (.aaload, 1) := by decide +kernel
theorem d_X4_kinds_50 : decode cX4_kinds 50 = .ok (.iload 5, 2) := by decide +kernel
theorem d_X4_kinds_52 : decode cX4_kinds 52 = .ok (.putfield 156, 3) := by decide +kernel
theorem d_X4_kinds_55 : decode cX4_kinds 55 = .ok (.aload_n 0, 1) := by decide +kernel
theorem d_X4_kinds_56 : decode cX4_kinds 56 = .ok (.aload_n 0, 1) := by decide +kernel
theorem d_X4_kinds_57 : decode cX4_kinds 57 = .ok (.getfield 35, 3) := by decide +kernel
theorem d_X4_kinds_60 : decode cX4_kinds 60 = .ok (.iload_n 1, 1) := by decide +kernel
theorem d_X4_kinds_61 : decode cX4_kinds 61 = .ok (.aaload, 1) := by decide +kernel
theorem d_X4_kinds_62 : decode cX4_kinds 62 = .ok (.iload_n 2, 1) := by decide +kernel
theorem d_X4_kinds_63 : decode cX4_kinds 63 = .ok (.invokevirtual 177, 3) := by decide +kernel
theorem d_X4_kinds_66 : decode cX4_kinds 66 = .ok (.ifCond .eq 12, 3) := by decide +kernel
theorem d_X4_kinds_69 : decode cX4_kinds 69 = .ok (.iload 4, 2) := by decide +kernel
theorem d_X4_kinds_71 : decode cX4_kinds 71 = .ok (.iconst 1, 1) := by decide +kernel
theorem d_X4_kinds_72 : decode cX4_kinds 72 = .ok (.iload 5, 2) := by decide +kernel
theorem d_X4_kinds_74 : decode cX4_kinds 74 = .ok (.ishl, 1) := by decide +kernel
theorem d_X4_kinds_75 : decode cX4_kinds 75 = .ok (.ior, 1) := by decide +kernel
theorem d_X4_kinds_76 : decode cX4_kinds 76 = .ok (.istore 4, 2) := by decide +kernel
theorem d_X4_kinds_78 : decode cX4_kinds 78 = .ok (.iinc 5 1, 3) := by decide +kernel
theorem d_X4_kinds_81 : decode cX4_kinds 81 = .ok (.goto (-58), 3) := by decide +kernel
theorem d_X4_kinds_84 : decode cX4_kinds 84 = .ok (.iload 4, 2) := by decide +kernel
theorem d_X4_kinds_86 : decode cX4_kinds 86 = .ok (.ireturn, 1) := by decide +kernel
noncomputable def P_X4_kinds : Nat → Op := fun pc => nd 42 pc (nd 18 pc (nd 8 pc (nd 3 pc (nd 1 pc (lf 0 pc (oALd 0 1)) (nd 2 pc (lf 1 pc (oILd 1 2)) (lf 2 pc (oILd 2 3)))) (nd 6 pc (lf 3 pc (oCaV 3 4 S_X4_findingOfFalls 6)) (nd 7 pc (lf 6 pc (oISt 3 7)) (lf 7 pc (oILd 3 8))))) (nd 13 pc (nd 11 pc (lf 8 pc (oIfEq 17 11)) (nd 12 pc (lf 11 pc (oALd 0 12)) (lf 12 pc (oILd 3 13)))) (nd 16 pc (lf 13 pc (oCaV 2 4 S_X4_tell 16)) (nd 17 pc (lf 16 pc (oIRet)) (lf 17 pc (oCst 0 18)))))) (nd 30 pc (nd 23 pc (nd 20 pc (lf 18 pc (oISt 4 20)) (nd 21 pc (lf 20 pc (oCst 0 21)) (lf 21 pc (oISt 5 23)))) (nd 25 pc (lf 23 pc (lockO (oILd 5 25) 0)) (nd 27 pc (lf 25 pc (oCst 6 27)) (lf 27 pc (oCpGt 84 30))))) (nd 35 pc (nd 31 pc (lf 30 pc (oALd 0 31)) (nd 34 pc (lf 31 pc (oGetR 4 1 34)) (lf 34 pc (oALd 0 35)))) (nd 38 pc (lf 35 pc (oGetR 4 0 38)) (nd 41 pc (lf 38 pc (oCaV 2 0 S_X0_become 41)) (lf 41 pc (oALd 0 42))))))) (nd 63 pc (nd 55 pc (nd 49 pc (nd 45 pc (lf 42 pc (oGetR 4 1 45)) (nd 48 pc (lf 45 pc (oGetR 0 8 48)) (lf 48 pc (oILd 2 49)))) (nd 50 pc (lf 49 pc (oAAL 7 50)) (nd 52 pc (lf 50 pc (oILd 5 52)) (lf 52 pc (oPutI 1 0 55))))) (nd 60 pc (nd 56 pc (lf 55 pc (oALd 0 56)) (nd 57 pc (lf 56 pc (oALd 0 57)) (lf 57 pc (oGetR 4 5 60)))) (nd 61 pc (lf 60 pc (oILd 1 61)) (nd 62 pc (lf 61 pc (oAAL 8 62)) (lf 62 pc (oILd 2 63)))))) (nd 75 pc (nd 71 pc (nd 66 pc (lf 63 pc (oCaV 3 4 S_X4_trialIsAsTold 66)) (nd 69 pc (lf 66 pc (oIfEq 78 69)) (lf 69 pc (oILd 4 71)))) (nd 72 pc (lf 71 pc (oCst 1 72)) (nd 74 pc (lf 72 pc (oILd 5 74)) (lf 74 pc (oBin (fun x y => x <<< (y &&& 31)) 75))))) (nd 81 pc (nd 76 pc (lf 75 pc (oBin (fun x y => x ||| y) 76)) (nd 78 pc (lf 76 pc (oISt 4 78)) (lf 78 pc (oInc 5 1 81)))) (nd 84 pc (lf 81 pc (oGo 23)) (nd 86 pc (lf 84 pc (oILd 4 86)) (lf 86 pc (oIRet)))))))
theorem ok_X4_kinds {l : Launch} {G : Gm} : ∀ pc, OkU (TXm l G (rmD 7) 6 cX4_kinds RX4) (RXm l G (rmD 7) 6 cX4_kinds RX4 (some .int)) pc (P_X4_kinds pc) := fun pc => ok_nd (ok_nd (ok_nd (ok_nd (ok_nd (ok_lf (ok_ALdn d_X4_kinds_0 rfl rfl)) (ok_nd (ok_lf (ok_ILdn d_X4_kinds_1 rfl rfl)) (ok_lf (ok_ILdn d_X4_kinds_2 rfl rfl)))) (ok_nd (ok_lf (ok_CaV su_X4_findingOfFalls (by decide) rfl d_X4_kinds_3 q442 q444 z34 q1 q445 ⟨by decide +kernel, by decide +kernel, by decide +kernel⟩ ⟨by decide, by decide⟩ rfl)) (ok_nd (ok_lf (ok_IStn d_X4_kinds_6 rfl rfl)) (ok_lf (ok_ILdn d_X4_kinds_7 rfl rfl))))) (ok_nd (ok_nd (ok_lf (ok_IfEq d_X4_kinds_8 (by decide) rfl)) (ok_nd (ok_lf (ok_ALdn d_X4_kinds_11 rfl rfl)) (ok_lf (ok_ILdn d_X4_kinds_12 rfl rfl)))) (ok_nd (ok_lf (ok_CaV su_X4_tell (by decide) rfl d_X4_kinds_13 q184 q186 z0 q1 q187 ⟨by decide +kernel, by decide +kernel, by decide +kernel⟩ ⟨by decide, by decide⟩ rfl)) (ok_nd (ok_lf (ok_IRet d_X4_kinds_16)) (ok_lf (ok_ICst d_X4_kinds_17 (by decide) rfl)))))) (ok_nd (ok_nd (ok_nd (ok_lf (ok_ISt d_X4_kinds_18 rfl)) (ok_nd (ok_lf (ok_ICst d_X4_kinds_20 (by decide) rfl)) (ok_lf (ok_ISt d_X4_kinds_21 rfl)))) (ok_nd (ok_lf (ok_lk (ok_ILd d_X4_kinds_23 rfl))) (ok_nd (ok_lf (ok_BCst d_X4_kinds_25 (by decide) rfl)) (ok_lf (ok_CpGt d_X4_kinds_27 (by decide) rfl))))) (ok_nd (ok_nd (ok_lf (ok_ALdn d_X4_kinds_30 rfl rfl)) (ok_nd (ok_lf (ok_GetR (by decide) (by decide) rfl d_X4_kinds_31 q155 rfl)) (ok_lf (ok_ALdn d_X4_kinds_34 rfl rfl)))) (ok_nd (ok_lf (ok_GetR (by decide) (by decide) rfl d_X4_kinds_35 q154 rfl)) (ok_nd (ok_lf (ok_CaVN su_X0_become (by decide) rfl d_X4_kinds_38 q365 q367 z28 q2 q368 ⟨by decide +kernel, by decide +kernel, by decide +kernel⟩ ⟨by decide, by decide⟩ rfl)) (ok_lf (ok_ALdn d_X4_kinds_41 rfl rfl))))))) (ok_nd (ok_nd (ok_nd (ok_nd (ok_lf (ok_GetR (by decide) (by decide) rfl d_X4_kinds_42 q155 rfl)) (ok_nd (ok_lf (ok_GetRN (by decide) (by decide) rfl d_X4_kinds_45 q88 rfl)) (ok_lf (ok_ILdn d_X4_kinds_48 rfl rfl)))) (ok_nd (ok_lf (ok_AAL (by decide) (by decide) d_X4_kinds_49 rfl)) (ok_nd (ok_lf (ok_ILd d_X4_kinds_50 rfl)) (ok_lf (ok_PutIN (by decide) (by decide) rfl rfl (by decide +kernel) d_X4_kinds_52 q36 rfl))))) (ok_nd (ok_nd (ok_lf (ok_ALdn d_X4_kinds_55 rfl rfl)) (ok_nd (ok_lf (ok_ALdn d_X4_kinds_56 rfl rfl)) (ok_lf (ok_GetR (by decide) (by decide) rfl d_X4_kinds_57 q159 rfl)))) (ok_nd (ok_lf (ok_ILdn d_X4_kinds_60 rfl rfl)) (ok_nd (ok_lf (ok_AAL (by decide) (by decide) d_X4_kinds_61 rfl)) (ok_lf (ok_ILdn d_X4_kinds_62 rfl rfl)))))) (ok_nd (ok_nd (ok_nd (ok_lf (ok_CaV su_X4_trialIsAsTold (by decide) rfl d_X4_kinds_63 q458 q460 z37 q1 q461 ⟨by decide +kernel, by decide +kernel, by decide +kernel⟩ ⟨by decide, by decide⟩ rfl)) (ok_nd (ok_lf (ok_IfEq d_X4_kinds_66 (by decide) rfl)) (ok_lf (ok_ILd d_X4_kinds_69 rfl)))) (ok_nd (ok_lf (ok_ICst d_X4_kinds_71 (by decide) rfl)) (ok_nd (ok_lf (ok_ILd d_X4_kinds_72 rfl)) (ok_lf (ok_ishl d_X4_kinds_74 rfl))))) (ok_nd (ok_nd (ok_lf (ok_ior d_X4_kinds_75 rfl)) (ok_nd (ok_lf (ok_ISt d_X4_kinds_76 rfl)) (ok_lf (ok_Inc d_X4_kinds_78 (by decide) rfl)))) (ok_nd (ok_lf (ok_Go d_X4_kinds_81 (by decide))) (ok_nd (ok_lf (ok_ILd d_X4_kinds_84 rfl)) (ok_lf (ok_IRet d_X4_kinds_86)))))))
noncomputable def S_X4_kinds : Sem := lockS (inl P_X4_kinds 30000 6) 0
theorem su_X4_kinds {l : Launch} {G : Gm} : SemU l G yX4_kinds (wsOf yX4_kinds cX4_kinds 6 (some .int)) 7 S_X4_kinds := sem_lock (sem_inl 30000 (by decide +kernel) rfl ok_X4_kinds)
theorem d_X4_toss_0 : decode cX4_toss 0 = .ok (.iload_n 1, 1) := by decide +kernel
theorem d_X4_toss_1 : decode cX4_toss 1 = .ok (.iconst 1, 1) := by decide +kernel
theorem d_X4_toss_2 : decode cX4_toss 2 = .ok (.bipush 20, 2) := by decide +kernel
theorem d_X4_toss_4 : decode cX4_toss 4 = .ok (.invokestatic 44, 3) := by decide +kernel
theorem d_X4_toss_7 : decode cX4_toss 7 = .ok (.ifCond .ne 10, 3) := by decide +kernel
theorem d_X4_toss_10 : decode cX4_toss 10 = .ok (.aload_n 0, 1) := by decide +kernel
theorem d_X4_toss_11 : decode cX4_toss 11 = .ok (.ldc 55, 2) := by decide +kernel
theorem d_X4_toss_13 : decode cX4_toss 13 = .ok (.invokevirtual 56, 3) := by decide +kernel
theorem d_X4_toss_16 : decode cX4_toss 16 = .ok (.ireturn, 1) := by decide +kernel
theorem d_X4_toss_17 : decode cX4_toss 17 = .ok (.aload_n 0, 1) := by decide +kernel
theorem d_X4_toss_18 : decode cX4_toss 18 = .ok (.getfield 12, 3) := by decide +kernel
theorem d_X4_toss_21 : decode cX4_toss 21 = .ok (.getfield 91, 3) := by decide +kernel
theorem d_X4_toss_24 : decode cX4_toss 24 = .ok (.iload_n 1, 1) := by decide +kernel
theorem d_X4_toss_25 : decode cX4_toss 25 = .ok (.iadd, 1) := by decide +kernel
theorem d_X4_toss_26 : decode cX4_toss 26 = .ok (.ldc 116, 2) := by decide +kernel
theorem d_X4_toss_28 : decode cX4_toss 28 = .ok (.if_icmp .le 10, 3) := by decide +kernel
theorem d_X4_toss_31 : decode cX4_toss 31 = .ok (.aload_n 0, 1) := by decide +kernel
theorem d_X4_toss_32 : decode cX4_toss 32 = .ok (.ldc 117, 2) := by decide +kernel
theorem d_X4_toss_34 : decode cX4_toss 34 = .ok (.invokevirtual 56, 3) := by decide +kernel
theorem d_X4_toss_37 : decode cX4_toss 37 = .ok (.ireturn, 1) := by decide +kernel
theorem d_X4_toss_38 : decode cX4_toss 38 = .ok (.iconst 0, 1) := by decide +kernel
theorem d_X4_toss_39 : decode cX4_toss 39 = .ok (.istore_n 2, 1) := by decide +kernel
theorem d_X4_toss_40 : decode cX4_toss 40 = .ok (.iload_n 2, 1) := by decide +kernel
theorem d_X4_toss_41 : decode cX4_toss 41 = .ok (.iload_n 1, 1) := by decide +kernel
theorem d_X4_toss_42 : decode cX4_toss 42 = .ok (.if_icmp .ge 83, 3) := by decide +kernel
theorem d_X4_toss_45 : decode cX4_toss 45 = .ok (.aload_n 0, 1) := by decide +kernel
theorem d_X4_toss_46 : decode cX4_toss 46 = .ok (.getfield 12, 3) := by decide +kernel
theorem d_X4_toss_49 : decode cX4_toss 49 = .ok (.invokevirtual 181, 3) := by decide +kernel
theorem d_X4_toss_52 : decode cX4_toss 52 = .ok (.bipush 8, 2) := by decide +kernel
theorem d_X4_toss_54 : decode cX4_toss 54 = .ok (.irem, 1) := by decide +kernel
theorem d_X4_toss_55 : decode cX4_toss 55 = .ok (.istore_n 3, 1) := by decide +kernel
theorem d_X4_toss_56 : decode cX4_toss 56 = .ok (.aload_n 0, 1) := by decide +kernel
theorem d_X4_toss_57 : decode cX4_toss 57 = .ok (.getfield 12, 3) := by decide +kernel
theorem d_X4_toss_60 : decode cX4_toss 60 = .ok (.invokevirtual 181, 3) := by decide +kernel
theorem d_X4_toss_63 : decode cX4_toss 63 = .ok (.bipush 8, 2) := by decide +kernel
theorem d_X4_toss_65 : decode cX4_toss 65 = .ok (.irem, 1) := by decide +kernel
theorem d_X4_toss_66 : decode cX4_toss 66 = .ok (.istore 4, 2) := by decide +kernel
theorem d_X4_toss_68 : decode cX4_toss 68 = .ok (.aload_n 0, 1) := by decide +kernel
theorem d_X4_toss_69 : decode cX4_toss 69 = .ok (.getfield 12, 3) := by decide +kernel
theorem d_X4_toss_72 : decode cX4_toss 72 = .ok (.getfield 70, 3) := by decide +kernel
theorem d_X4_toss_75 : decode cX4_toss 75 = .ok (.aload_n 0, 1) := by decide +kernel
theorem d_X4_toss_76 : decode cX4_toss 76 = .ok (.getfield 12, 3) := by decide +kernel
theorem d_X4_toss_79 : decode cX4_toss 79 = .ok (.getfield 91, 3) := by decide +kernel
theorem d_X4_toss_82 : decode cX4_toss 82 = .ok (.bipush 6, 2) := by decide +kernel
theorem d_X4_toss_84 : decode cX4_toss 84 = .ok (.irem, 1) := by decide +kernel
theorem d_X4_toss_85 : decode cX4_toss 85 = .ok (.bipush 10, 2) := by decide +kernel
theorem d_X4_toss_87 : decode cX4_toss 87 = .ok (.iload_n 3, 1) := by decide +kernel
theorem d_X4_toss_88 : decode cX4_toss 88 = .ok (.imul, 1) := by decide +kernel
theorem d_X4_toss_89 : decode cX4_toss 89 = .ok (.iload 4, 2) := by decide +kernel
theorem d_X4_toss_91 : decode cX4_toss 91 = .ok (.iadd, 1) := by decide +kernel
theorem d_X4_toss_92 : decode cX4_toss 92 = .ok (.iastore, 1) := by decide +kernel
theorem d_X4_toss_93 : decode cX4_toss 93 = .ok (.aload_n 0, 1) := by decide +kernel
theorem d_X4_toss_94 : decode cX4_toss 94 = .ok (.getfield 12, 3) := by decide +kernel
theorem d_X4_toss_97 : decode cX4_toss 97 = .ok (.iconst 1, 1) := by decide +kernel
theorem d_X4_toss_98 : decode cX4_toss 98 = .ok (.aload_n 0, 1) := by decide +kernel
theorem d_X4_toss_99 : decode cX4_toss 99 = .ok (.getfield 12, 3) := by decide +kernel
theorem d_X4_toss_102 : decode cX4_toss 102 = .ok (.invokevirtual 181, 3) := by decide +kernel
theorem d_X4_toss_105 : decode cX4_toss 105 = .ok (.bipush 60, 2) := by decide +kernel
theorem d_X4_toss_107 : decode cX4_toss 107 = .ok (.irem, 1) := by decide +kernel
theorem d_X4_toss_108 : decode cX4_toss 108 = .ok (.iadd, 1) := by decide +kernel
theorem d_X4_toss_109 : decode cX4_toss 109 = .ok (.putfield 48, 3) := by decide +kernel
theorem d_X4_toss_112 : decode cX4_toss 112 = .ok (.aload_n 0, 1) := by decide +kernel
theorem d_X4_toss_113 : decode cX4_toss 113 = .ok (.getfield 12, 3) := by decide +kernel
theorem d_X4_toss_116 : decode cX4_toss 116 = .ok (.invokevirtual 118, 3) := by decide +kernel
theorem d_X4_toss_119 : decode cX4_toss 119 = .ok (.iinc 2 1, 3) := by decide +kernel
theorem d_X4_toss_122 : decode cX4_toss 122 = .ok (.goto (-82), 3) := by decide +kernel
theorem d_X4_toss_125 : decode cX4_toss 125 = .ok (.aload_n 0, 1) := by decide +kernel
theorem d_X4_toss_126 : decode cX4_toss 126 = .ok (.getfield 12, 3) := by decide +kernel
theorem d_X4_toss_129 : decode cX4_toss 129 = .ok (.invokevirtual 121, 3) := by decide +kernel
theorem d_X4_toss_132 : decode cX4_toss 132 = .ok (.ireturn, 1) := by decide +kernel
noncomputable def P_X4_toss : Nat → Op := fun pc => nd 65 pc (nd 32 pc (nd 16 pc (nd 7 pc (nd 2 pc (nd 1 pc (lf 0 pc (oILd 1 1)) (lf 1 pc (oCst 1 2))) (nd 4 pc (lf 2 pc (oCst 20 4)) (lf 4 pc (oCaS 3 S_X4_isWithin 7)))) (nd 11 pc (nd 10 pc (lf 7 pc (oIfEq 10 17)) (lf 10 pc (oALd 0 11))) (nd 13 pc (lf 11 pc (oCst (-1000001) 13)) (lf 13 pc (oCaV 2 4 S_X4_tell 16))))) (nd 24 pc (nd 18 pc (nd 17 pc (lf 16 pc (oIRet)) (lf 17 pc (oALd 0 18))) (nd 21 pc (lf 18 pc (oGetR 4 0 21)) (lf 21 pc (oGetI 0 3 24)))) (nd 26 pc (nd 25 pc (lf 24 pc (oILd 1 25)) (lf 25 pc (oBin (fun x y => x + y) 26))) (nd 28 pc (lf 26 pc (oCst (99999) 28)) (nd 31 pc (lf 28 pc (oCpGt 31 38)) (lf 31 pc (oALd 0 32))))))) (nd 46 pc (nd 39 pc (nd 37 pc (nd 34 pc (lf 32 pc (oCst (-1000005) 34)) (lf 34 pc (oCaV 2 4 S_X4_tell 37))) (nd 38 pc (lf 37 pc (oIRet)) (lf 38 pc (oCst 0 39)))) (nd 41 pc (nd 40 pc (lf 39 pc (oISt 2 40)) (lf 40 pc (lockO (oILd 2 41) 0))) (nd 42 pc (lf 41 pc (oILd 1 42)) (nd 45 pc (lf 42 pc (oCpLt 45 125)) (lf 45 pc (oALd 0 46)))))) (nd 55 pc (nd 52 pc (nd 49 pc (lf 46 pc (oGetR 4 0 49)) (lf 49 pc (oCaV 1 0 S_X0_draw 52))) (nd 54 pc (lf 52 pc (oCst 8 54)) (lf 54 pc (oDiv (fun x y => x % y) 55)))) (nd 57 pc (nd 56 pc (lf 55 pc (oISt 3 56)) (lf 56 pc (oALd 0 57))) (nd 60 pc (lf 57 pc (oGetR 4 0 60)) (nd 63 pc (lf 60 pc (oCaV 1 0 S_X0_draw 63)) (lf 63 pc (oCst 8 65)))))))) (nd 94 pc (nd 82 pc (nd 72 pc (nd 68 pc (nd 66 pc (lf 65 pc (oDiv (fun x y => x % y) 66)) (lf 66 pc (oISt 4 68))) (nd 69 pc (lf 68 pc (oALd 0 69)) (lf 69 pc (oGetR 4 0 72)))) (nd 76 pc (nd 75 pc (lf 72 pc (oGetR 0 5 75)) (lf 75 pc (oALd 0 76))) (nd 79 pc (lf 76 pc (oGetR 4 0 79)) (lf 79 pc (oGetI 0 3 82))))) (nd 88 pc (nd 85 pc (nd 84 pc (lf 82 pc (oCst 6 84)) (lf 84 pc (oDiv (fun x y => x % y) 85))) (nd 87 pc (lf 85 pc (oCst 10 87)) (lf 87 pc (oILd 3 88)))) (nd 91 pc (nd 89 pc (lf 88 pc (oBin (fun x y => x * y) 89)) (lf 89 pc (oILd 4 91))) (nd 92 pc (lf 91 pc (oBin (fun x y => x + y) 92)) (nd 93 pc (lf 92 pc (oIAS 93)) (lf 93 pc (oALd 0 94))))))) (nd 112 pc (nd 102 pc (nd 98 pc (nd 97 pc (lf 94 pc (oGetR 4 0 97)) (lf 97 pc (oCst 1 98))) (nd 99 pc (lf 98 pc (oALd 0 99)) (lf 99 pc (oGetR 4 0 102)))) (nd 107 pc (nd 105 pc (lf 102 pc (oCaV 1 0 S_X0_draw 105)) (lf 105 pc (oCst 60 107))) (nd 108 pc (lf 107 pc (oDiv (fun x y => x % y) 108)) (nd 109 pc (lf 108 pc (oBin (fun x y => x + y) 109)) (lf 109 pc (oPutI 0 0 112)))))) (nd 122 pc (nd 116 pc (nd 113 pc (lf 112 pc (oALd 0 113)) (lf 113 pc (oGetR 4 0 116))) (nd 119 pc (lf 116 pc (oCaV 1 0 S_X0_dropOnce 119)) (lf 119 pc (oInc 2 1 122)))) (nd 126 pc (nd 125 pc (lf 122 pc (oGo 40)) (lf 125 pc (oALd 0 126))) (nd 129 pc (lf 126 pc (oGetR 4 0 129)) (nd 132 pc (lf 129 pc (oCaV 1 0 S_X0_wrongs 132)) (lf 132 pc (oIRet))))))))
theorem ok_X4_toss {l : Launch} {G : Gm} : ∀ pc, OkU (TXm l G (rmD 6) 5 cX4_toss RX4) (RXm l G (rmD 6) 5 cX4_toss RX4 (some .int)) pc (P_X4_toss pc) := fun pc => ok_nd (ok_nd (ok_nd (ok_nd (ok_nd (ok_nd (ok_lf (ok_ILdn d_X4_toss_0 rfl rfl)) (ok_lf (ok_ICst d_X4_toss_1 (by decide) rfl))) (ok_nd (ok_lf (ok_BCst d_X4_toss_2 (by decide) rfl)) (ok_lf (ok_CaS su_X4_isWithin d_X4_toss_4 q180 q181 q1 q182 ⟨by decide +kernel, by decide +kernel, by decide +kernel⟩ ⟨by decide, by decide⟩ rfl)))) (ok_nd (ok_nd (ok_lf (ok_IfNe d_X4_toss_7 (by decide) rfl)) (ok_lf (ok_ALdn d_X4_toss_10 rfl rfl))) (ok_nd (ok_lf (ok_Ldc d_X4_toss_11 q183 rfl)) (ok_lf (ok_CaV su_X4_tell (by decide) rfl d_X4_toss_13 q184 q186 z0 q1 q187 ⟨by decide +kernel, by decide +kernel, by decide +kernel⟩ ⟨by decide, by decide⟩ rfl))))) (ok_nd (ok_nd (ok_nd (ok_lf (ok_IRet d_X4_toss_16)) (ok_lf (ok_ALdn d_X4_toss_17 rfl rfl))) (ok_nd (ok_lf (ok_GetR (by decide) (by decide) rfl d_X4_toss_18 q154 rfl)) (ok_lf (ok_GetIN (by decide) (by decide) rfl d_X4_toss_21 q76 rfl)))) (ok_nd (ok_nd (ok_lf (ok_ILdn d_X4_toss_24 rfl rfl)) (ok_lf (ok_iadd d_X4_toss_25 rfl))) (ok_nd (ok_lf (ok_Ldc d_X4_toss_26 q306 rfl)) (ok_nd (ok_lf (ok_CpLe d_X4_toss_28 (by decide) rfl)) (ok_lf (ok_ALdn d_X4_toss_31 rfl rfl))))))) (ok_nd (ok_nd (ok_nd (ok_nd (ok_lf (ok_Ldc d_X4_toss_32 q307 rfl)) (ok_lf (ok_CaV su_X4_tell (by decide) rfl d_X4_toss_34 q184 q186 z0 q1 q187 ⟨by decide +kernel, by decide +kernel, by decide +kernel⟩ ⟨by decide, by decide⟩ rfl))) (ok_nd (ok_lf (ok_IRet d_X4_toss_37)) (ok_lf (ok_ICst d_X4_toss_38 (by decide) rfl)))) (ok_nd (ok_nd (ok_lf (ok_IStn d_X4_toss_39 rfl rfl)) (ok_lf (ok_lk (ok_ILdn d_X4_toss_40 rfl rfl)))) (ok_nd (ok_lf (ok_ILdn d_X4_toss_41 rfl rfl)) (ok_nd (ok_lf (ok_CpGe d_X4_toss_42 (by decide) rfl)) (ok_lf (ok_ALdn d_X4_toss_45 rfl rfl)))))) (ok_nd (ok_nd (ok_nd (ok_lf (ok_GetR (by decide) (by decide) rfl d_X4_toss_46 q154 rfl)) (ok_lf (ok_CaVN su_X0_draw (by decide) rfl d_X4_toss_49 q474 q476 z38 q2 q477 ⟨by decide +kernel, by decide +kernel, by decide +kernel⟩ ⟨by decide, by decide⟩ rfl))) (ok_nd (ok_lf (ok_BCst d_X4_toss_52 (by decide) rfl)) (ok_lf (ok_irem d_X4_toss_54 rfl)))) (ok_nd (ok_nd (ok_lf (ok_IStn d_X4_toss_55 rfl rfl)) (ok_lf (ok_ALdn d_X4_toss_56 rfl rfl))) (ok_nd (ok_lf (ok_GetR (by decide) (by decide) rfl d_X4_toss_57 q154 rfl)) (ok_nd (ok_lf (ok_CaVN su_X0_draw (by decide) rfl d_X4_toss_60 q474 q476 z38 q2 q477 ⟨by decide +kernel, by decide +kernel, by decide +kernel⟩ ⟨by decide, by decide⟩ rfl)) (ok_lf (ok_BCst d_X4_toss_63 (by decide) rfl)))))))) (ok_nd (ok_nd (ok_nd (ok_nd (ok_nd (ok_lf (ok_irem d_X4_toss_65 rfl)) (ok_lf (ok_ISt d_X4_toss_66 rfl))) (ok_nd (ok_lf (ok_ALdn d_X4_toss_68 rfl rfl)) (ok_lf (ok_GetR (by decide) (by decide) rfl d_X4_toss_69 q154 rfl)))) (ok_nd (ok_nd (ok_lf (ok_GetRN (by decide) (by decide) rfl d_X4_toss_72 q80 rfl)) (ok_lf (ok_ALdn d_X4_toss_75 rfl rfl))) (ok_nd (ok_lf (ok_GetR (by decide) (by decide) rfl d_X4_toss_76 q154 rfl)) (ok_lf (ok_GetIN (by decide) (by decide) rfl d_X4_toss_79 q76 rfl))))) (ok_nd (ok_nd (ok_nd (ok_lf (ok_BCst d_X4_toss_82 (by decide) rfl)) (ok_lf (ok_irem d_X4_toss_84 rfl))) (ok_nd (ok_lf (ok_BCst d_X4_toss_85 (by decide) rfl)) (ok_lf (ok_ILdn d_X4_toss_87 rfl rfl)))) (ok_nd (ok_nd (ok_lf (ok_imul d_X4_toss_88 rfl)) (ok_lf (ok_ILd d_X4_toss_89 rfl))) (ok_nd (ok_lf (ok_iadd d_X4_toss_91 rfl)) (ok_nd (ok_lf (ok_IAS d_X4_toss_92 rfl)) (ok_lf (ok_ALdn d_X4_toss_93 rfl rfl))))))) (ok_nd (ok_nd (ok_nd (ok_nd (ok_lf (ok_GetR (by decide) (by decide) rfl d_X4_toss_94 q154 rfl)) (ok_lf (ok_ICst d_X4_toss_97 (by decide) rfl))) (ok_nd (ok_lf (ok_ALdn d_X4_toss_98 rfl rfl)) (ok_lf (ok_GetR (by decide) (by decide) rfl d_X4_toss_99 q154 rfl)))) (ok_nd (ok_nd (ok_lf (ok_CaVN su_X0_draw (by decide) rfl d_X4_toss_102 q474 q476 z38 q2 q477 ⟨by decide +kernel, by decide +kernel, by decide +kernel⟩ ⟨by decide, by decide⟩ rfl)) (ok_lf (ok_BCst d_X4_toss_105 (by decide) rfl))) (ok_nd (ok_lf (ok_irem d_X4_toss_107 rfl)) (ok_nd (ok_lf (ok_iadd d_X4_toss_108 rfl)) (ok_lf (ok_PutIN (by decide) (by decide) rfl rfl (by decide +kernel) d_X4_toss_109 q68 rfl)))))) (ok_nd (ok_nd (ok_nd (ok_lf (ok_ALdn d_X4_toss_112 rfl rfl)) (ok_lf (ok_GetR (by decide) (by decide) rfl d_X4_toss_113 q154 rfl))) (ok_nd (ok_lf (ok_CaVN su_X0_dropOnce (by decide) rfl d_X4_toss_116 q308 q310 z17 q2 q311 ⟨by decide +kernel, by decide +kernel, by decide +kernel⟩ ⟨by decide, by decide⟩ rfl)) (ok_lf (ok_Inc d_X4_toss_119 (by decide) rfl)))) (ok_nd (ok_nd (ok_lf (ok_Go d_X4_toss_122 (by decide))) (ok_lf (ok_ALdn d_X4_toss_125 rfl rfl))) (ok_nd (ok_lf (ok_GetR (by decide) (by decide) rfl d_X4_toss_126 q154 rfl)) (ok_nd (ok_lf (ok_CaVN su_X0_wrongs (by decide) rfl d_X4_toss_129 q336 q338 z23 q2 q339 ⟨by decide +kernel, by decide +kernel, by decide +kernel⟩ ⟨by decide, by decide⟩ rfl)) (ok_lf (ok_IRet d_X4_toss_132))))))))
noncomputable def S_X4_toss : Sem := lockS (inl P_X4_toss 30000 5) 0
theorem su_X4_toss {l : Launch} {G : Gm} : SemU l G yX4_toss (wsOf yX4_toss cX4_toss 5 (some .int)) 6 S_X4_toss := sem_lock (sem_inl 30000 (by decide +kernel) rfl ok_X4_toss)
theorem d_X4_commonDivisor_0 : decode cX4_commonDivisor 0 = .ok (.iload_n 0, 1) := by decide +kernel
theorem d_X4_commonDivisor_1 : decode cX4_commonDivisor 1 = .ok (.istore_n 2, 1) := by decide +kernel
theorem d_X4_commonDivisor_2 : decode cX4_commonDivisor 2 = .ok (.iload_n 2, 1) := by decide +kernel
theorem d_X4_commonDivisor_3 : decode cX4_commonDivisor 3 = .ok (.iconst 1, 1) := by decide +kernel
theorem d_X4_commonDivisor_4 : decode cX4_commonDivisor 4 = .ok (.if_icmp .le 23, 3) := by decide +kernel
theorem d_X4_commonDivisor_7 : decode cX4_commonDivisor 7 = .ok (.iload_n 0, 1) := by decide +kernel
theorem d_X4_commonDivisor_8 : decode cX4_commonDivisor 8 = .ok (.iload_n 2, 1) := by decide +kernel
theorem d_X4_commonDivisor_9 : decode cX4_commonDivisor 9 = .ok (.irem, 1) := by decide +kernel
theorem d_X4_commonDivisor_10 : decode cX4_commonDivisor 10 = .ok (.ifCond .ne 11, 3) := by decide +kernel
theorem d_X4_commonDivisor_13 : decode cX4_commonDivisor 13 = .ok (.iload_n 1, 1) := by decide +kernel
theorem d_X4_commonDivisor_14 : decode cX4_commonDivisor 14 = .ok (.iload_n 2, 1) := by decide +kernel
theorem d_X4_commonDivisor_15 : decode cX4_commonDivisor 15 = .ok (.irem, 1) := by decide +kernel
theorem d_X4_commonDivisor_16 : decode cX4_commonDivisor 16 = .ok (.ifCond .ne 5, 3) := by decide +kernel
theorem d_X4_commonDivisor_19 : decode cX4_commonDivisor 19 = .ok (.iload_n 2, 1) := by decide +kernel
theorem d_X4_commonDivisor_20 : decode cX4_commonDivisor 20 = .ok (.ireturn, 1) := by decide +kernel
theorem d_X4_commonDivisor_21 : decode cX4_commonDivisor 21 = .ok (.iinc 2 (-1), 3) := by decide +kernel
theorem d_X4_commonDivisor_24 : decode cX4_commonDivisor 24 = .ok (.goto (-22), 3) := by decide +kernel
theorem d_X4_commonDivisor_27 : decode cX4_commonDivisor 27 = .ok (.iconst 1, 1) := by decide +kernel
theorem d_X4_commonDivisor_28 : decode cX4_commonDivisor 28 = .ok (.ireturn, 1) := by decide +kernel
noncomputable def P_X4_commonDivisor : Nat → Op := fun pc => nd 13 pc (nd 4 pc (nd 2 pc (nd 1 pc (lf 0 pc (oILd 0 1)) (lf 1 pc (oISt 2 2))) (nd 3 pc (lf 2 pc (lockO (oILd 2 3) 0)) (lf 3 pc (oCst 1 4)))) (nd 8 pc (nd 7 pc (lf 4 pc (oCpGt 7 27)) (lf 7 pc (oILd 0 8))) (nd 9 pc (lf 8 pc (oILd 2 9)) (nd 10 pc (lf 9 pc (oDiv (fun x y => x % y) 10)) (lf 10 pc (oIfEq 13 21)))))) (nd 20 pc (nd 15 pc (nd 14 pc (lf 13 pc (oILd 1 14)) (lf 14 pc (oILd 2 15))) (nd 16 pc (lf 15 pc (oDiv (fun x y => x % y) 16)) (nd 19 pc (lf 16 pc (oIfEq 19 21)) (lf 19 pc (oILd 2 20))))) (nd 24 pc (nd 21 pc (lf 20 pc (oIRet)) (lf 21 pc (oInc 2 (-1) 24))) (nd 27 pc (lf 24 pc (oGo 2)) (nd 28 pc (lf 27 pc (oCst 1 28)) (lf 28 pc (oIRet))))))
theorem ok_X4_commonDivisor {l : Launch} {G : Gm} : ∀ pc, OkU (TXm l G (rmD 1) 3 cX4_commonDivisor RX4) (RXm l G (rmD 1) 3 cX4_commonDivisor RX4 (some .int)) pc (P_X4_commonDivisor pc) := fun pc => ok_nd (ok_nd (ok_nd (ok_nd (ok_lf (ok_ILdn d_X4_commonDivisor_0 rfl rfl)) (ok_lf (ok_IStn d_X4_commonDivisor_1 rfl rfl))) (ok_nd (ok_lf (ok_lk (ok_ILdn d_X4_commonDivisor_2 rfl rfl))) (ok_lf (ok_ICst d_X4_commonDivisor_3 (by decide) rfl)))) (ok_nd (ok_nd (ok_lf (ok_CpLe d_X4_commonDivisor_4 (by decide) rfl)) (ok_lf (ok_ILdn d_X4_commonDivisor_7 rfl rfl))) (ok_nd (ok_lf (ok_ILdn d_X4_commonDivisor_8 rfl rfl)) (ok_nd (ok_lf (ok_irem d_X4_commonDivisor_9 rfl)) (ok_lf (ok_IfNe d_X4_commonDivisor_10 (by decide) rfl)))))) (ok_nd (ok_nd (ok_nd (ok_lf (ok_ILdn d_X4_commonDivisor_13 rfl rfl)) (ok_lf (ok_ILdn d_X4_commonDivisor_14 rfl rfl))) (ok_nd (ok_lf (ok_irem d_X4_commonDivisor_15 rfl)) (ok_nd (ok_lf (ok_IfNe d_X4_commonDivisor_16 (by decide) rfl)) (ok_lf (ok_ILdn d_X4_commonDivisor_19 rfl rfl))))) (ok_nd (ok_nd (ok_lf (ok_IRet d_X4_commonDivisor_20)) (ok_lf (ok_Inc d_X4_commonDivisor_21 (by decide) rfl))) (ok_nd (ok_lf (ok_Go d_X4_commonDivisor_24 (by decide))) (ok_nd (ok_lf (ok_ICst d_X4_commonDivisor_27 (by decide) rfl)) (ok_lf (ok_IRet d_X4_commonDivisor_28))))))
noncomputable def S_X4_commonDivisor : Sem := lockS (inl P_X4_commonDivisor 30000 3) 0
theorem su_X4_commonDivisor {l : Launch} {G : Gm} : SemU l G yX4_commonDivisor (wsOf yX4_commonDivisor cX4_commonDivisor 3 (some .int)) 1 S_X4_commonDivisor := sem_lock (sem_inl 30000 (by decide +kernel) rfl ok_X4_commonDivisor)
theorem d_X4_odds_0 : decode cX4_odds 0 = .ok (.aload_n 0, 1) := by decide +kernel
theorem d_X4_odds_1 : decode cX4_odds 1 = .ok (.getfield 12, 3) := by decide +kernel
theorem d_X4_odds_4 : decode cX4_odds 4 = .ok (.iload_n 1, 1) := by decide +kernel
theorem d_X4_odds_5 : decode cX4_odds 5 = .ok (.iload_n 2, 1) := by decide +kernel
theorem d_X4_odds_6 : decode cX4_odds 6 = .ok (.invokevirtual 105, 3) := by decide +kernel
theorem d_X4_odds_9 : decode cX4_odds 9 = .ok (.ifCond .eq 23, 3) := by decide +kernel
theorem d_X4_odds_12 : decode cX4_odds 12 = .ok (.iload_n 3, 1) := by decide +kernel
theorem d_X4_odds_13 : decode cX4_odds 13 = .ok (.iconst 0, 1) := by decide +kernel
theorem d_X4_odds_14 : decode cX4_odds 14 = .ok (.bipush 10, 2) := by decide +kernel
theorem d_X4_odds_16 : decode cX4_odds 16 = .ok (.invokestatic 44, 3) := by decide +kernel
theorem d_X4_odds_19 : decode cX4_odds 19 = .ok (.ifCond .eq 13, 3) := by decide +kernel
theorem d_X4_odds_22 : decode cX4_odds 22 = .ok (.iload 4, 2) := by decide +kernel
theorem d_X4_odds_24 : decode cX4_odds 24 = .ok (.iconst 0, 1) := by decide +kernel
theorem d_X4_odds_25 : decode cX4_odds 25 = .ok (.iconst 1, 1) := by decide +kernel
theorem d_X4_odds_26 : decode cX4_odds 26 = .ok (.invokestatic 44, 3) := by decide +kernel
theorem d_X4_odds_29 : decode cX4_odds 29 = .ok (.ifCond .ne 11, 3) := by decide +kernel
theorem d_X4_odds_32 : decode cX4_odds 32 = .ok (.aload_n 0, 1) := by decide +kernel
theorem d_X4_odds_33 : decode cX4_odds 33 = .ok (.ldc 55, 2) := by decide +kernel
theorem d_X4_odds_35 : decode cX4_odds 35 = .ok (.invokevirtual 56, 3) := by decide +kernel
theorem d_X4_odds_38 : decode cX4_odds 38 = .ok (.i2l, 1) := by decide +kernel
theorem d_X4_odds_39 : decode cX4_odds 39 = .ok (.lreturn, 1) := by decide +kernel
theorem d_X4_odds_40 : decode cX4_odds 40 = .ok (.iconst 0, 1) := by decide +kernel
theorem d_X4_odds_41 : decode cX4_odds 41 = .ok (.istore 5, 2) := by decide +kernel
theorem d_X4_odds_43 : decode cX4_odds 43 = .ok (.iconst 1, 1) := by decide +kernel
theorem d_X4_odds_44 : decode cX4_odds 44 = .ok (.istore 6, 2) := by decide +kernel
theorem d_X4_odds_46 : decode cX4_odds 46 = .ok (.iload 6, 2) := by decide +kernel
theorem d_X4_odds_48 : decode cX4_odds 48 = .ok (.bipush 60, 2) := by decide +kernel
theorem d_X4_odds_50 : decode cX4_odds 50 = .ok (.if_icmp .gt 27, 3) := by decide +kernel
theorem d_X4_odds_53 : decode cX4_odds 53 = .ok (.aload_n 0, 1) := by decide +kernel
theorem d_X4_odds_54 : decode cX4_odds 54 = .ok (.getfield 12, 3) := by decide +kernel
theorem d_X4_odds_57 : decode cX4_odds 57 = .ok (.iload 6, 2) := by decide +kernel
theorem d_X4_odds_59 : decode cX4_odds 59 = .ok (.iload_n 1, 1) := by decide +kernel
theorem d_X4_odds_60 : decode cX4_odds 60 = .ok (.iload_n 2, 1) := by decide +kernel
theorem d_X4_odds_61 : decode cX4_odds 61 = .ok (.invokevirtual 112, 3) := by decide +kernel
theorem d_X4_odds_64 : decode cX4_odds 64 = .ok (.iload_n 1, 1) := by decide +kernel
theorem d_X4_odds_65 : decode cX4_odds 65 = .ok (.if_icmp .ne 6, 3) := by decide +kernel
theorem d_X4_odds_68 : decode cX4_odds 68 = .ok (.iinc 5 1, 3) := by decide +kernel
theorem d_X4_odds_71 : decode cX4_odds 71 = .ok (.iinc 6 1, 3) := by decide +kernel
theorem d_X4_odds_74 : decode cX4_odds 74 = .ok (.goto (-28), 3) := by decide +kernel
theorem d_X4_odds_77 : decode cX4_odds 77 = .ok (.bipush 60, 2) := by decide +kernel
theorem d_X4_odds_79 : decode cX4_odds 79 = .ok (.iload 5, 2) := by decide +kernel
theorem d_X4_odds_81 : decode cX4_odds 81 = .ok (.invokestatic 184, 3) := by decide +kernel
theorem d_X4_odds_84 : decode cX4_odds 84 = .ok (.istore 6, 2) := by decide +kernel
theorem d_X4_odds_86 : decode cX4_odds 86 = .ok (.iload 4, 2) := by decide +kernel
theorem d_X4_odds_88 : decode cX4_odds 88 = .ok (.ifCond .ne 8, 3) := by decide +kernel
theorem d_X4_odds_91 : decode cX4_odds 91 = .ok (.iload 5, 2) := by decide +kernel
theorem d_X4_odds_93 : decode cX4_odds 93 = .ok (.goto 5, 3) := by decide +kernel
theorem d_X4_odds_96 : decode cX4_odds 96 = .ok (.bipush 60, 2) := by decide +kernel
theorem d_X4_odds_98 : decode cX4_odds 98 = .ok (.iload 6, 2) := by decide +kernel
theorem d_X4_odds_100 : decode cX4_odds 100 = .ok (.idiv, 1) := by decide +kernel
theorem d_X4_odds_101 : decode cX4_odds 101 = .ok (.istore 7, 2) := by decide +kernel
theorem d_X4_odds_103 : decode cX4_odds 103 = .ok (.lconst 1, 1) := by decide +kernel
theorem d_X4_odds_104 : decode cX4_odds 104 = .ok (.lstore 8, 2) := by decide +kernel
theorem d_X4_odds_106 : decode cX4_odds 106 = .ok (.iconst 0, 1) := by decide +kernel
theorem d_X4_odds_107 : decode cX4_odds 107 = .ok (.istore 10, 2) := by decide +kernel
theorem d_X4_odds_109 : decode cX4_odds 109 = .ok (.iload 10, 2) := by decide +kernel
theorem d_X4_odds_111 : decode cX4_odds 111 = .ok (.iload_n 3, 1) := by decide +kernel
theorem d_X4_odds_112 : decode cX4_odds 112 = .ok (.if_icmp .ge 17, 3) := by decide +kernel
theorem d_X4_odds_115 : decode cX4_odds 115 = .ok (.lload 8, 2) := by decide +kernel
theorem d_X4_odds_117 : decode cX4_odds 117 = .ok (.iload 7, 2) := by decide +kernel
theorem d_X4_odds_119 : decode cX4_odds 119 = .ok (.i2l, 1) := by decide +kernel
theorem d_X4_odds_120 : decode cX4_odds 120 = .ok (.lmul, 1) := by decide +kernel
theorem d_X4_odds_121 : decode cX4_odds 121 = .ok (.lstore 8, 2) := by decide +kernel
theorem d_X4_odds_123 : decode cX4_odds 123 = .ok (.iinc 10 1, 3) := by decide +kernel
theorem d_X4_odds_126 : decode cX4_odds 126 = .ok (.goto (-17), 3) := by decide +kernel
theorem d_X4_odds_129 : decode cX4_odds 129 = .ok (.lload 8, 2) := by decide +kernel
theorem d_X4_odds_131 : decode cX4_odds 131 = .ok (.lreturn, 1) := by decide +kernel
noncomputable def P_X4_odds : Nat → Op := fun pc => nd 61 pc (nd 32 pc (nd 14 pc (nd 6 pc (nd 4 pc (nd 1 pc (lf 0 pc (oALd 0 1)) (lf 1 pc (oGetR 4 0 4))) (nd 5 pc (lf 4 pc (oILd 1 5)) (lf 5 pc (oILd 2 6)))) (nd 12 pc (nd 9 pc (lf 6 pc (oCaV 3 0 S_X0_areTwo 9)) (lf 9 pc (oIfEq 32 12))) (nd 13 pc (lf 12 pc (oILd 3 13)) (lf 13 pc (oCst 0 14))))) (nd 24 pc (nd 19 pc (nd 16 pc (lf 14 pc (oCst 10 16)) (lf 16 pc (oCaS 3 S_X4_isWithin 19))) (nd 22 pc (lf 19 pc (oIfEq 32 22)) (lf 22 pc (oILd 4 24)))) (nd 26 pc (nd 25 pc (lf 24 pc (oCst 0 25)) (lf 25 pc (oCst 1 26))) (nd 29 pc (lf 26 pc (oCaS 3 S_X4_isWithin 29)) (lf 29 pc (oIfEq 32 40)))))) (nd 44 pc (nd 39 pc (nd 35 pc (nd 33 pc (lf 32 pc (oALd 0 33)) (lf 33 pc (oCst (-1000001) 35))) (nd 38 pc (lf 35 pc (oCaV 2 4 S_X4_tell 38)) (lf 38 pc (oI2L 39)))) (nd 41 pc (nd 40 pc (lf 39 pc (oLRet)) (lf 40 pc (oCst 0 41))) (nd 43 pc (lf 41 pc (oISt 5 43)) (lf 43 pc (oCst 1 44))))) (nd 53 pc (nd 48 pc (nd 46 pc (lf 44 pc (oISt 6 46)) (lf 46 pc (lockO (oILd 6 48) 0))) (nd 50 pc (lf 48 pc (oCst 60 50)) (lf 50 pc (oCpGt 77 53)))) (nd 57 pc (nd 54 pc (lf 53 pc (oALd 0 54)) (lf 54 pc (oGetR 4 0 57))) (nd 59 pc (lf 57 pc (oILd 6 59)) (nd 60 pc (lf 59 pc (oILd 1 60)) (lf 60 pc (oILd 2 61)))))))) (nd 101 pc (nd 81 pc (nd 71 pc (nd 65 pc (nd 64 pc (lf 61 pc (oCaV 4 0 S_X0_loser 64)) (lf 64 pc (oILd 1 65))) (nd 68 pc (lf 65 pc (oCpEq 68 71)) (lf 68 pc (oInc 5 1 71)))) (nd 77 pc (nd 74 pc (lf 71 pc (oInc 6 1 74)) (lf 74 pc (oGo 46))) (nd 79 pc (lf 77 pc (oCst 60 79)) (lf 79 pc (oILd 5 81))))) (nd 91 pc (nd 86 pc (nd 84 pc (lf 81 pc (oCaS 2 S_X4_commonDivisor 84)) (lf 84 pc (oISt 6 86))) (nd 88 pc (lf 86 pc (oILd 4 88)) (lf 88 pc (oIfEq 91 96)))) (nd 96 pc (nd 93 pc (lf 91 pc (oILd 5 93)) (lf 93 pc (oGo 98))) (nd 98 pc (lf 96 pc (oCst 60 98)) (nd 100 pc (lf 98 pc (oILd 6 100)) (lf 100 pc (oDiv (fun x y => x / y) 101))))))) (nd 115 pc (nd 107 pc (nd 104 pc (nd 103 pc (lf 101 pc (oISt 7 103)) (lf 103 pc (oLCst 1 104))) (nd 106 pc (lf 104 pc (oLSt 8 106)) (lf 106 pc (oCst 0 107)))) (nd 111 pc (nd 109 pc (lf 107 pc (oISt 10 109)) (lf 109 pc (lockO (oILd 10 111) 0))) (nd 112 pc (lf 111 pc (oILd 3 112)) (lf 112 pc (oCpLt 115 129))))) (nd 121 pc (nd 119 pc (nd 117 pc (lf 115 pc (oLLd 8 117)) (lf 117 pc (oILd 7 119))) (nd 120 pc (lf 119 pc (oI2L 120)) (lf 120 pc (oLBin (fun x y => x * y) 121)))) (nd 126 pc (nd 123 pc (lf 121 pc (oLSt 8 123)) (lf 123 pc (oInc 10 1 126))) (nd 129 pc (lf 126 pc (oGo 109)) (nd 131 pc (lf 129 pc (oLLd 8 131)) (lf 131 pc (oLRet))))))))
theorem ok_X4_odds {l : Launch} {G : Gm} : ∀ pc, OkU (TXm l G (rmD 4) 11 cX4_odds RX4) (RXm l G (rmD 4) 11 cX4_odds RX4 (some .long)) pc (P_X4_odds pc) := fun pc => ok_nd (ok_nd (ok_nd (ok_nd (ok_nd (ok_nd (ok_lf (ok_ALdn d_X4_odds_0 rfl rfl)) (ok_lf (ok_GetR (by decide) (by decide) rfl d_X4_odds_1 q154 rfl))) (ok_nd (ok_lf (ok_ILdn d_X4_odds_4 rfl rfl)) (ok_lf (ok_ILdn d_X4_odds_5 rfl rfl)))) (ok_nd (ok_nd (ok_lf (ok_CaVN su_X0_areTwo (by decide) rfl d_X4_odds_6 q281 q283 z14 q2 q284 ⟨by decide +kernel, by decide +kernel, by decide +kernel⟩ ⟨by decide, by decide⟩ rfl)) (ok_lf (ok_IfEq d_X4_odds_9 (by decide) rfl))) (ok_nd (ok_lf (ok_ILdn d_X4_odds_12 rfl rfl)) (ok_lf (ok_ICst d_X4_odds_13 (by decide) rfl))))) (ok_nd (ok_nd (ok_nd (ok_lf (ok_BCst d_X4_odds_14 (by decide) rfl)) (ok_lf (ok_CaS su_X4_isWithin d_X4_odds_16 q180 q181 q1 q182 ⟨by decide +kernel, by decide +kernel, by decide +kernel⟩ ⟨by decide, by decide⟩ rfl))) (ok_nd (ok_lf (ok_IfEq d_X4_odds_19 (by decide) rfl)) (ok_lf (ok_ILd d_X4_odds_22 rfl)))) (ok_nd (ok_nd (ok_lf (ok_ICst d_X4_odds_24 (by decide) rfl)) (ok_lf (ok_ICst d_X4_odds_25 (by decide) rfl))) (ok_nd (ok_lf (ok_CaS su_X4_isWithin d_X4_odds_26 q180 q181 q1 q182 ⟨by decide +kernel, by decide +kernel, by decide +kernel⟩ ⟨by decide, by decide⟩ rfl)) (ok_lf (ok_IfNe d_X4_odds_29 (by decide) rfl)))))) (ok_nd (ok_nd (ok_nd (ok_nd (ok_lf (ok_ALdn d_X4_odds_32 rfl rfl)) (ok_lf (ok_Ldc d_X4_odds_33 q183 rfl))) (ok_nd (ok_lf (ok_CaV su_X4_tell (by decide) rfl d_X4_odds_35 q184 q186 z0 q1 q187 ⟨by decide +kernel, by decide +kernel, by decide +kernel⟩ ⟨by decide, by decide⟩ rfl)) (ok_lf (ok_I2L d_X4_odds_38 rfl)))) (ok_nd (ok_nd (ok_lf (ok_LRet d_X4_odds_39)) (ok_lf (ok_ICst d_X4_odds_40 (by decide) rfl))) (ok_nd (ok_lf (ok_ISt d_X4_odds_41 rfl)) (ok_lf (ok_ICst d_X4_odds_43 (by decide) rfl))))) (ok_nd (ok_nd (ok_nd (ok_lf (ok_ISt d_X4_odds_44 rfl)) (ok_lf (ok_lk (ok_ILd d_X4_odds_46 rfl)))) (ok_nd (ok_lf (ok_BCst d_X4_odds_48 (by decide) rfl)) (ok_lf (ok_CpGt d_X4_odds_50 (by decide) rfl)))) (ok_nd (ok_nd (ok_lf (ok_ALdn d_X4_odds_53 rfl rfl)) (ok_lf (ok_GetR (by decide) (by decide) rfl d_X4_odds_54 q154 rfl))) (ok_nd (ok_lf (ok_ILd d_X4_odds_57 rfl)) (ok_nd (ok_lf (ok_ILdn d_X4_odds_59 rfl rfl)) (ok_lf (ok_ILdn d_X4_odds_60 rfl rfl)))))))) (ok_nd (ok_nd (ok_nd (ok_nd (ok_nd (ok_lf (ok_CaVN su_X0_loser (by decide) rfl d_X4_odds_61 q295 q297 z16 q2 q298 ⟨by decide +kernel, by decide +kernel, by decide +kernel⟩ ⟨by decide, by decide⟩ rfl)) (ok_lf (ok_ILdn d_X4_odds_64 rfl rfl))) (ok_nd (ok_lf (ok_CpNe d_X4_odds_65 (by decide) rfl)) (ok_lf (ok_Inc d_X4_odds_68 (by decide) rfl)))) (ok_nd (ok_nd (ok_lf (ok_Inc d_X4_odds_71 (by decide) rfl)) (ok_lf (ok_Go d_X4_odds_74 (by decide)))) (ok_nd (ok_lf (ok_BCst d_X4_odds_77 (by decide) rfl)) (ok_lf (ok_ILd d_X4_odds_79 rfl))))) (ok_nd (ok_nd (ok_nd (ok_lf (ok_CaS su_X4_commonDivisor d_X4_odds_81 q483 q484 q1 q485 ⟨by decide +kernel, by decide +kernel, by decide +kernel⟩ ⟨by decide, by decide⟩ rfl)) (ok_lf (ok_ISt d_X4_odds_84 rfl))) (ok_nd (ok_lf (ok_ILd d_X4_odds_86 rfl)) (ok_lf (ok_IfNe d_X4_odds_88 (by decide) rfl)))) (ok_nd (ok_nd (ok_lf (ok_ILd d_X4_odds_91 rfl)) (ok_lf (ok_Go d_X4_odds_93 (by decide)))) (ok_nd (ok_lf (ok_BCst d_X4_odds_96 (by decide) rfl)) (ok_nd (ok_lf (ok_ILd d_X4_odds_98 rfl)) (ok_lf (ok_idiv d_X4_odds_100 rfl))))))) (ok_nd (ok_nd (ok_nd (ok_nd (ok_lf (ok_ISt d_X4_odds_101 rfl)) (ok_lf (ok_LCst d_X4_odds_103 (by decide) rfl))) (ok_nd (ok_lf (ok_LSt d_X4_odds_104 rfl)) (ok_lf (ok_ICst d_X4_odds_106 (by decide) rfl)))) (ok_nd (ok_nd (ok_lf (ok_ISt d_X4_odds_107 rfl)) (ok_lf (ok_lk (ok_ILd d_X4_odds_109 rfl)))) (ok_nd (ok_lf (ok_ILdn d_X4_odds_111 rfl rfl)) (ok_lf (ok_CpGe d_X4_odds_112 (by decide) rfl))))) (ok_nd (ok_nd (ok_nd (ok_lf (ok_LLd d_X4_odds_115 rfl)) (ok_lf (ok_ILd d_X4_odds_117 rfl))) (ok_nd (ok_lf (ok_I2L d_X4_odds_119 rfl)) (ok_lf (ok_lmul d_X4_odds_120 rfl)))) (ok_nd (ok_nd (ok_lf (ok_LSt d_X4_odds_121 rfl)) (ok_lf (ok_Inc d_X4_odds_123 (by decide) rfl))) (ok_nd (ok_lf (ok_Go d_X4_odds_126 (by decide))) (ok_nd (ok_lf (ok_LLd d_X4_odds_129 rfl)) (ok_lf (ok_LRet d_X4_odds_131))))))))
noncomputable def S_X4_odds : Sem := lockS (inl P_X4_odds 30000 11) 0
theorem su_X4_odds {l : Launch} {G : Gm} : SemU l G yX4_odds (wsOf yX4_odds cX4_odds 11 (some .long)) 4 S_X4_odds := sem_lock (sem_inl 30000 (by decide +kernel) rfl ok_X4_odds)
theorem d_X4_seed_0 : decode cX4_seed 0 = .ok (.aload_n 0, 1) := by decide +kernel
theorem d_X4_seed_1 : decode cX4_seed 1 = .ok (.getfield 12, 3) := by decide +kernel
theorem d_X4_seed_4 : decode cX4_seed 4 = .ok (.getfield 187, 3) := by decide +kernel
theorem d_X4_seed_7 : decode cX4_seed 7 = .ok (.istore_n 2, 1) := by decide +kernel
theorem d_X4_seed_8 : decode cX4_seed 8 = .ok (.aload_n 0, 1) := by decide +kernel
theorem d_X4_seed_9 : decode cX4_seed 9 = .ok (.getfield 12, 3) := by decide +kernel
theorem d_X4_seed_12 : decode cX4_seed 12 = .ok (.iload_n 1, 1) := by decide +kernel
theorem d_X4_seed_13 : decode cX4_seed 13 = .ok (.putfield 187, 3) := by decide +kernel
theorem d_X4_seed_16 : decode cX4_seed 16 = .ok (.iload_n 2, 1) := by decide +kernel
theorem d_X4_seed_17 : decode cX4_seed 17 = .ok (.ireturn, 1) := by decide +kernel
noncomputable def P_X4_seed : Nat → Op := fun pc => nd 9 pc (nd 4 pc (nd 1 pc (lf 0 pc (oALd 0 1)) (lf 1 pc (oGetR 4 0 4))) (nd 7 pc (lf 4 pc (oGetI 0 4 7)) (nd 8 pc (lf 7 pc (oISt 2 8)) (lf 8 pc (oALd 0 9))))) (nd 13 pc (nd 12 pc (lf 9 pc (oGetR 4 0 12)) (lf 12 pc (oILd 1 13))) (nd 16 pc (lf 13 pc (oPutI 0 4 16)) (nd 17 pc (lf 16 pc (oILd 2 17)) (lf 17 pc (oIRet)))))
theorem ok_X4_seed {l : Launch} {G : Gm} : ∀ pc, OkU (TXm l G (rmD 1) 3 cX4_seed RX4) (RXm l G (rmD 1) 3 cX4_seed RX4 (some .int)) pc (P_X4_seed pc) := fun pc => ok_nd (ok_nd (ok_nd (ok_lf (ok_ALdn d_X4_seed_0 rfl rfl)) (ok_lf (ok_GetR (by decide) (by decide) rfl d_X4_seed_1 q154 rfl))) (ok_nd (ok_lf (ok_GetIN (by decide) (by decide) rfl d_X4_seed_4 q78 rfl)) (ok_nd (ok_lf (ok_IStn d_X4_seed_7 rfl rfl)) (ok_lf (ok_ALdn d_X4_seed_8 rfl rfl))))) (ok_nd (ok_nd (ok_lf (ok_GetR (by decide) (by decide) rfl d_X4_seed_9 q154 rfl)) (ok_lf (ok_ILdn d_X4_seed_12 rfl rfl))) (ok_nd (ok_lf (ok_PutIN (by decide) (by decide) rfl rfl (by decide +kernel) d_X4_seed_13 q78 rfl)) (ok_nd (ok_lf (ok_ILdn d_X4_seed_16 rfl rfl)) (ok_lf (ok_IRet d_X4_seed_17)))))
noncomputable def S_X4_seed : Sem := lockS (inl P_X4_seed 12 3) 0
theorem su_X4_seed {l : Launch} {G : Gm} : SemU l G yX4_seed (wsOf yX4_seed cX4_seed 3 (some .int)) 1 S_X4_seed := sem_lock (sem_inl 12 (by decide +kernel) rfl ok_X4_seed)
theorem d_X4_feed_0 : decode cX4_feed 0 = .ok (.iload_n 2, 1) := by decide +kernel
theorem d_X4_feed_1 : decode cX4_feed 1 = .ok (.iconst 1, 1) := by decide +kernel
theorem d_X4_feed_2 : decode cX4_feed 2 = .ok (.iconst 4, 1) := by decide +kernel
theorem d_X4_feed_3 : decode cX4_feed 3 = .ok (.invokestatic 44, 3) := by decide +kernel
theorem d_X4_feed_6 : decode cX4_feed 6 = .ok (.ifCond .ne 10, 3) := by decide +kernel
theorem d_X4_feed_9 : decode cX4_feed 9 = .ok (.aload_n 0, 1) := by decide +kernel
theorem d_X4_feed_10 : decode cX4_feed 10 = .ok (.ldc 55, 2) := by decide +kernel
theorem d_X4_feed_12 : decode cX4_feed 12 = .ok (.invokevirtual 56, 3) := by decide +kernel
theorem d_X4_feed_15 : decode cX4_feed 15 = .ok (.ireturn, 1) := by decide +kernel
theorem d_X4_feed_16 : decode cX4_feed 16 = .ok (.aload_n 0, 1) := by decide +kernel
theorem d_X4_feed_17 : decode cX4_feed 17 = .ok (.getfield 29, 3) := by decide +kernel
theorem d_X4_feed_20 : decode cX4_feed 20 = .ok (.getfield 190, 3) := by decide +kernel
theorem d_X4_feed_23 : decode cX4_feed 23 = .ok (.iload_n 2, 1) := by decide +kernel
theorem d_X4_feed_24 : decode cX4_feed 24 = .ok (.iadd, 1) := by decide +kernel
theorem d_X4_feed_25 : decode cX4_feed 25 = .ok (.bipush 120, 2) := by decide +kernel
theorem d_X4_feed_27 : decode cX4_feed 27 = .ok (.if_icmp .le 10, 3) := by decide +kernel
theorem d_X4_feed_30 : decode cX4_feed 30 = .ok (.aload_n 0, 1) := by decide +kernel
theorem d_X4_feed_31 : decode cX4_feed 31 = .ok (.ldc 77, 2) := by decide +kernel
theorem d_X4_feed_33 : decode cX4_feed 33 = .ok (.invokevirtual 56, 3) := by decide +kernel
theorem d_X4_feed_36 : decode cX4_feed 36 = .ok (.ireturn, 1) := by decide +kernel
theorem d_X4_feed_37 : decode cX4_feed 37 = .ok (.iload_n 2, 1) := by decide +kernel
theorem d_X4_feed_38 : decode cX4_feed 38 = .ok (.iconst 1, 1) := by decide +kernel
theorem d_X4_feed_39 : decode cX4_feed 39 = .ok (.isub, 1) := by decide +kernel
theorem d_X4_feed_40 : decode cX4_feed 40 = .ok (.istore_n 3, 1) := by decide +kernel
theorem d_X4_feed_41 : decode cX4_feed 41 = .ok (.iload_n 3, 1) := by decide +kernel
theorem d_X4_feed_42 : decode cX4_feed 42 = .ok (.ifCond .lt 26, 3) := by decide +kernel
theorem d_X4_feed_45 : decode cX4_feed 45 = .ok (.aload_n 0, 1) := by decide +kernel
theorem d_X4_feed_46 : decode cX4_feed 46 = .ok (.getfield 29, 3) := by decide +kernel
theorem d_X4_feed_49 : decode cX4_feed 49 = .ok (.iload_n 1, 1) := by decide +kernel
theorem d_X4_feed_50 : decode cX4_feed 50 = .ok (.bipush 8, 2) := by decide +kernel
theorem d_X4_feed_52 : decode cX4_feed 52 = .ok (.iload_n 3, 1) := by decide +kernel
theorem d_X4_feed_53 : decode cX4_feed 53 = .ok (.imul, 1) := by decide +kernel
theorem d_X4_feed_54 : decode cX4_feed 54 = .ok (.ishr, 1) := by decide +kernel
theorem d_X4_feed_55 : decode cX4_feed 55 = .ok (.sipush 255, 3) := by decide +kernel
theorem d_X4_feed_58 : decode cX4_feed 58 = .ok (.iand, 1) := by decide +kernel
theorem d_X4_feed_59 : decode cX4_feed 59 = .ok (.invokevirtual 191, 3) := by decide +kernel
theorem d_X4_feed_62 : decode cX4_feed 62 = .ok (.iinc 3 (-1), 3) := by decide +kernel
theorem d_X4_feed_65 : decode cX4_feed 65 = .ok (.goto (-24), 3) := by decide +kernel
theorem d_X4_feed_68 : decode cX4_feed 68 = .ok (.aload_n 0, 1) := by decide +kernel
theorem d_X4_feed_69 : decode cX4_feed 69 = .ok (.getfield 29, 3) := by decide +kernel
theorem d_X4_feed_72 : decode cX4_feed 72 = .ok (.getfield 190, 3) := by decide +kernel
theorem d_X4_feed_75 : decode cX4_feed 75 = .ok (.ireturn, 1) := by decide +kernel
noncomputable def P_X4_feed : Nat → Op := fun pc => nd 38 pc (nd 17 pc (nd 9 pc (nd 2 pc (nd 1 pc (lf 0 pc (oILd 2 1)) (lf 1 pc (oCst 1 2))) (nd 3 pc (lf 2 pc (oCst 4 3)) (nd 6 pc (lf 3 pc (oCaS 3 S_X4_isWithin 6)) (lf 6 pc (oIfEq 9 16))))) (nd 12 pc (nd 10 pc (lf 9 pc (oALd 0 10)) (lf 10 pc (oCst (-1000001) 12))) (nd 15 pc (lf 12 pc (oCaV 2 4 S_X4_tell 15)) (nd 16 pc (lf 15 pc (oIRet)) (lf 16 pc (oALd 0 17)))))) (nd 27 pc (nd 23 pc (nd 20 pc (lf 17 pc (oGetR 4 4 20)) (lf 20 pc (oGetI 3 1 23))) (nd 24 pc (lf 23 pc (oILd 2 24)) (nd 25 pc (lf 24 pc (oBin (fun x y => x + y) 25)) (lf 25 pc (oCst 120 27))))) (nd 33 pc (nd 30 pc (lf 27 pc (oCpGt 30 37)) (nd 31 pc (lf 30 pc (oALd 0 31)) (lf 31 pc (oCst (-1000002) 33)))) (nd 36 pc (lf 33 pc (oCaV 2 4 S_X4_tell 36)) (nd 37 pc (lf 36 pc (oIRet)) (lf 37 pc (oILd 2 38))))))) (nd 53 pc (nd 45 pc (nd 40 pc (nd 39 pc (lf 38 pc (oCst 1 39)) (lf 39 pc (oBin (fun x y => x - y) 40))) (nd 41 pc (lf 40 pc (oISt 3 41)) (nd 42 pc (lf 41 pc (lockO (oILd 3 42) 0)) (lf 42 pc (oIfLt 68 45))))) (nd 49 pc (nd 46 pc (lf 45 pc (oALd 0 46)) (lf 46 pc (oGetR 4 4 49))) (nd 50 pc (lf 49 pc (oILd 1 50)) (nd 52 pc (lf 50 pc (oCst 8 52)) (lf 52 pc (oILd 3 53)))))) (nd 62 pc (nd 55 pc (nd 54 pc (lf 53 pc (oBin (fun x y => x * y) 54)) (lf 54 pc (oBin (fun x y => x >>> (y &&& 31)) 55))) (nd 58 pc (lf 55 pc (oCst 255 58)) (nd 59 pc (lf 58 pc (oBin (fun x y => x &&& y) 59)) (lf 59 pc (oCaV 2 3 S_X3_append 62))))) (nd 69 pc (nd 65 pc (lf 62 pc (oInc 3 (-1) 65)) (nd 68 pc (lf 65 pc (oGo 41)) (lf 68 pc (oALd 0 69)))) (nd 72 pc (lf 69 pc (oGetR 4 4 72)) (nd 75 pc (lf 72 pc (oGetI 3 1 75)) (lf 75 pc (oIRet)))))))
theorem ok_X4_feed {l : Launch} {G : Gm} : ∀ pc, OkU (TXm l G (rmD 3) 4 cX4_feed RX4) (RXm l G (rmD 3) 4 cX4_feed RX4 (some .int)) pc (P_X4_feed pc) := fun pc => ok_nd (ok_nd (ok_nd (ok_nd (ok_nd (ok_lf (ok_ILdn d_X4_feed_0 rfl rfl)) (ok_lf (ok_ICst d_X4_feed_1 (by decide) rfl))) (ok_nd (ok_lf (ok_ICst d_X4_feed_2 (by decide) rfl)) (ok_nd (ok_lf (ok_CaS su_X4_isWithin d_X4_feed_3 q180 q181 q1 q182 ⟨by decide +kernel, by decide +kernel, by decide +kernel⟩ ⟨by decide, by decide⟩ rfl)) (ok_lf (ok_IfNe d_X4_feed_6 (by decide) rfl))))) (ok_nd (ok_nd (ok_lf (ok_ALdn d_X4_feed_9 rfl rfl)) (ok_lf (ok_Ldc d_X4_feed_10 q183 rfl))) (ok_nd (ok_lf (ok_CaV su_X4_tell (by decide) rfl d_X4_feed_12 q184 q186 z0 q1 q187 ⟨by decide +kernel, by decide +kernel, by decide +kernel⟩ ⟨by decide, by decide⟩ rfl)) (ok_nd (ok_lf (ok_IRet d_X4_feed_15)) (ok_lf (ok_ALdn d_X4_feed_16 rfl rfl)))))) (ok_nd (ok_nd (ok_nd (ok_lf (ok_GetR (by decide) (by decide) rfl d_X4_feed_17 q158 rfl)) (ok_lf (ok_GetIN (by decide) (by decide) rfl d_X4_feed_20 q116 rfl))) (ok_nd (ok_lf (ok_ILdn d_X4_feed_23 rfl rfl)) (ok_nd (ok_lf (ok_iadd d_X4_feed_24 rfl)) (ok_lf (ok_BCst d_X4_feed_25 (by decide) rfl))))) (ok_nd (ok_nd (ok_lf (ok_CpLe d_X4_feed_27 (by decide) rfl)) (ok_nd (ok_lf (ok_ALdn d_X4_feed_30 rfl rfl)) (ok_lf (ok_Ldc d_X4_feed_31 q214 rfl)))) (ok_nd (ok_lf (ok_CaV su_X4_tell (by decide) rfl d_X4_feed_33 q184 q186 z0 q1 q187 ⟨by decide +kernel, by decide +kernel, by decide +kernel⟩ ⟨by decide, by decide⟩ rfl)) (ok_nd (ok_lf (ok_IRet d_X4_feed_36)) (ok_lf (ok_ILdn d_X4_feed_37 rfl rfl))))))) (ok_nd (ok_nd (ok_nd (ok_nd (ok_lf (ok_ICst d_X4_feed_38 (by decide) rfl)) (ok_lf (ok_isub d_X4_feed_39 rfl))) (ok_nd (ok_lf (ok_IStn d_X4_feed_40 rfl rfl)) (ok_nd (ok_lf (ok_lk (ok_ILdn d_X4_feed_41 rfl rfl))) (ok_lf (ok_IfLt d_X4_feed_42 (by decide) rfl))))) (ok_nd (ok_nd (ok_lf (ok_ALdn d_X4_feed_45 rfl rfl)) (ok_lf (ok_GetR (by decide) (by decide) rfl d_X4_feed_46 q158 rfl))) (ok_nd (ok_lf (ok_ILdn d_X4_feed_49 rfl rfl)) (ok_nd (ok_lf (ok_BCst d_X4_feed_50 (by decide) rfl)) (ok_lf (ok_ILdn d_X4_feed_52 rfl rfl)))))) (ok_nd (ok_nd (ok_nd (ok_lf (ok_imul d_X4_feed_53 rfl)) (ok_lf (ok_ishr d_X4_feed_54 rfl))) (ok_nd (ok_lf (ok_SCst d_X4_feed_55 (by decide) rfl)) (ok_nd (ok_lf (ok_iand d_X4_feed_58 rfl)) (ok_lf (ok_CaVN su_X3_append (by decide) rfl d_X4_feed_59 q494 q496 z39 q4 q497 ⟨by decide +kernel, by decide +kernel, by decide +kernel⟩ ⟨by decide, by decide⟩ rfl))))) (ok_nd (ok_nd (ok_lf (ok_Inc d_X4_feed_62 (by decide) rfl)) (ok_nd (ok_lf (ok_Go d_X4_feed_65 (by decide))) (ok_lf (ok_ALdn d_X4_feed_68 rfl rfl)))) (ok_nd (ok_lf (ok_GetR (by decide) (by decide) rfl d_X4_feed_69 q158 rfl)) (ok_nd (ok_lf (ok_GetIN (by decide) (by decide) rfl d_X4_feed_72 q116 rfl)) (ok_lf (ok_IRet d_X4_feed_75)))))))
noncomputable def S_X4_feed : Sem := lockS (inl P_X4_feed 30000 4) 0
theorem su_X4_feed {l : Launch} {G : Gm} : SemU l G yX4_feed (wsOf yX4_feed cX4_feed 4 (some .int)) 3 S_X4_feed := sem_lock (sem_inl 30000 (by decide +kernel) rfl ok_X4_feed)
theorem d_X4_wipe_0 : decode cX4_wipe 0 = .ok (.aload_n 0, 1) := by decide +kernel
theorem d_X4_wipe_1 : decode cX4_wipe 1 = .ok (.getfield 29, 3) := by decide +kernel
theorem d_X4_wipe_4 : decode cX4_wipe 4 = .ok (.getfield 190, 3) := by decide +kernel
theorem d_X4_wipe_7 : decode cX4_wipe 7 = .ok (.istore_n 1, 1) := by decide +kernel
theorem d_X4_wipe_8 : decode cX4_wipe 8 = .ok (.aload_n 0, 1) := by decide +kernel
theorem d_X4_wipe_9 : decode cX4_wipe 9 = .ok (.getfield 29, 3) := by decide +kernel
theorem d_X4_wipe_12 : decode cX4_wipe 12 = .ok (.iconst 0, 1) := by decide +kernel
theorem d_X4_wipe_13 : decode cX4_wipe 13 = .ok (.putfield 190, 3) := by decide +kernel
theorem d_X4_wipe_16 : decode cX4_wipe 16 = .ok (.iload_n 1, 1) := by decide +kernel
theorem d_X4_wipe_17 : decode cX4_wipe 17 = .ok (.ireturn, 1) := by decide +kernel
noncomputable def P_X4_wipe : Nat → Op := fun pc => nd 9 pc (nd 4 pc (nd 1 pc (lf 0 pc (oALd 0 1)) (lf 1 pc (oGetR 4 4 4))) (nd 7 pc (lf 4 pc (oGetI 3 1 7)) (nd 8 pc (lf 7 pc (oISt 1 8)) (lf 8 pc (oALd 0 9))))) (nd 13 pc (nd 12 pc (lf 9 pc (oGetR 4 4 12)) (lf 12 pc (oCst 0 13))) (nd 16 pc (lf 13 pc (oPutI 3 1 16)) (nd 17 pc (lf 16 pc (oILd 1 17)) (lf 17 pc (oIRet)))))
theorem ok_X4_wipe {l : Launch} {G : Gm} : ∀ pc, OkU (TXm l G (rmD 1) 2 cX4_wipe RX4) (RXm l G (rmD 1) 2 cX4_wipe RX4 (some .int)) pc (P_X4_wipe pc) := fun pc => ok_nd (ok_nd (ok_nd (ok_lf (ok_ALdn d_X4_wipe_0 rfl rfl)) (ok_lf (ok_GetR (by decide) (by decide) rfl d_X4_wipe_1 q158 rfl))) (ok_nd (ok_lf (ok_GetIN (by decide) (by decide) rfl d_X4_wipe_4 q116 rfl)) (ok_nd (ok_lf (ok_IStn d_X4_wipe_7 rfl rfl)) (ok_lf (ok_ALdn d_X4_wipe_8 rfl rfl))))) (ok_nd (ok_nd (ok_lf (ok_GetR (by decide) (by decide) rfl d_X4_wipe_9 q158 rfl)) (ok_lf (ok_ICst d_X4_wipe_12 (by decide) rfl))) (ok_nd (ok_lf (ok_PutIN (by decide) (by decide) rfl rfl (by decide +kernel) d_X4_wipe_13 q116 rfl)) (ok_nd (ok_lf (ok_ILdn d_X4_wipe_16 rfl rfl)) (ok_lf (ok_IRet d_X4_wipe_17)))))
noncomputable def S_X4_wipe : Sem := lockS (inl P_X4_wipe 12 2) 0
theorem su_X4_wipe {l : Launch} {G : Gm} : SemU l G yX4_wipe (wsOf yX4_wipe cX4_wipe 2 (some .int)) 1 S_X4_wipe := sem_lock (sem_inl 12 (by decide +kernel) rfl ok_X4_wipe)
theorem d_X4_text_0 : decode cX4_text 0 = .ok (.aload_n 0, 1) := by decide +kernel
theorem d_X4_text_1 : decode cX4_text 1 = .ok (.getfield 16, 3) := by decide +kernel
theorem d_X4_text_4 : decode cX4_text 4 = .ok (.aload_n 0, 1) := by decide +kernel
theorem d_X4_text_5 : decode cX4_text 5 = .ok (.getfield 12, 3) := by decide +kernel
theorem d_X4_text_8 : decode cX4_text 8 = .ok (.invokevirtual 140, 3) := by decide +kernel
theorem d_X4_text_11 : decode cX4_text 11 = .ok (.aload_n 0, 1) := by decide +kernel
theorem d_X4_text_12 : decode cX4_text 12 = .ok (.getfield 29, 3) := by decide +kernel
theorem d_X4_text_15 : decode cX4_text 15 = .ok (.aload_n 0, 1) := by decide +kernel
theorem d_X4_text_16 : decode cX4_text 16 = .ok (.getfield 16, 3) := by decide +kernel
theorem d_X4_text_19 : decode cX4_text 19 = .ok (.invokevirtual 194, 3) := by decide +kernel
theorem d_X4_text_22 : decode cX4_text 22 = .ok (.istore_n 1, 1) := by decide +kernel
theorem d_X4_text_23 : decode cX4_text 23 = .ok (.aload_n 0, 1) := by decide +kernel
theorem d_X4_text_24 : decode cX4_text 24 = .ok (.getfield 29, 3) := by decide +kernel
theorem d_X4_text_27 : decode cX4_text 27 = .ok (.iconst 0, 1) := by decide +kernel
theorem d_X4_text_28 : decode cX4_text 28 = .ok (.putfield 190, 3) := by decide +kernel
theorem d_X4_text_31 : decode cX4_text 31 = .ok (.iload_n 1, 1) := by decide +kernel
theorem d_X4_text_32 : decode cX4_text 32 = .ok (.ifCond .lt 14, 3) := by decide +kernel
theorem d_X4_text_35 : decode cX4_text 35 = .ok (.aload_n 0, 1) := by decide +kernel
theorem d_X4_text_36 : decode cX4_text 36 = .ok (.getfield 12, 3) := by decide +kernel
theorem d_X4_text_39 : decode cX4_text 39 = .ok (.aload_n 0, 1) := by decide +kernel
theorem d_X4_text_40 : decode cX4_text 40 = .ok (.getfield 16, 3) := by decide +kernel
theorem d_X4_text_43 : decode cX4_text 43 = .ok (.invokevirtual 140, 3) := by decide +kernel
theorem d_X4_text_46 : decode cX4_text 46 = .ok (.iload_n 1, 1) := by decide +kernel
theorem d_X4_text_47 : decode cX4_text 47 = .ok (.ireturn, 1) := by decide +kernel
noncomputable def P_X4_text : Nat → Op := fun pc => nd 24 pc (nd 12 pc (nd 5 pc (nd 1 pc (lf 0 pc (oALd 0 1)) (nd 4 pc (lf 1 pc (oGetR 4 1 4)) (lf 4 pc (oALd 0 5)))) (nd 8 pc (lf 5 pc (oGetR 4 0 8)) (nd 11 pc (lf 8 pc (oCaV 2 0 S_X0_become 11)) (lf 11 pc (oALd 0 12))))) (nd 19 pc (nd 15 pc (lf 12 pc (oGetR 4 4 15)) (nd 16 pc (lf 15 pc (oALd 0 16)) (lf 16 pc (oGetR 4 1 19)))) (nd 22 pc (lf 19 pc (oCaV 2 3 S_X3_read 22)) (nd 23 pc (lf 22 pc (oISt 1 23)) (lf 23 pc (oALd 0 24)))))) (nd 36 pc (nd 31 pc (nd 27 pc (lf 24 pc (oGetR 4 4 27)) (nd 28 pc (lf 27 pc (oCst 0 28)) (lf 28 pc (oPutI 3 1 31)))) (nd 32 pc (lf 31 pc (oILd 1 32)) (nd 35 pc (lf 32 pc (oIfLt 46 35)) (lf 35 pc (oALd 0 36))))) (nd 43 pc (nd 39 pc (lf 36 pc (oGetR 4 0 39)) (nd 40 pc (lf 39 pc (oALd 0 40)) (lf 40 pc (oGetR 4 1 43)))) (nd 46 pc (lf 43 pc (oCaV 2 0 S_X0_become 46)) (nd 47 pc (lf 46 pc (oILd 1 47)) (lf 47 pc (oIRet))))))
theorem ok_X4_text {l : Launch} {G : Gm} : ∀ pc, OkU (TXm l G (rmD 9) 2 cX4_text RX4) (RXm l G (rmD 9) 2 cX4_text RX4 (some .int)) pc (P_X4_text pc) := fun pc => ok_nd (ok_nd (ok_nd (ok_nd (ok_lf (ok_ALdn d_X4_text_0 rfl rfl)) (ok_nd (ok_lf (ok_GetR (by decide) (by decide) rfl d_X4_text_1 q155 rfl)) (ok_lf (ok_ALdn d_X4_text_4 rfl rfl)))) (ok_nd (ok_lf (ok_GetR (by decide) (by decide) rfl d_X4_text_5 q154 rfl)) (ok_nd (ok_lf (ok_CaVN su_X0_become (by decide) rfl d_X4_text_8 q365 q367 z28 q2 q368 ⟨by decide +kernel, by decide +kernel, by decide +kernel⟩ ⟨by decide, by decide⟩ rfl)) (ok_lf (ok_ALdn d_X4_text_11 rfl rfl))))) (ok_nd (ok_nd (ok_lf (ok_GetR (by decide) (by decide) rfl d_X4_text_12 q158 rfl)) (ok_nd (ok_lf (ok_ALdn d_X4_text_15 rfl rfl)) (ok_lf (ok_GetR (by decide) (by decide) rfl d_X4_text_16 q155 rfl)))) (ok_nd (ok_lf (ok_CaVN su_X3_read (by decide) rfl d_X4_text_19 q506 q508 z40 q4 q509 ⟨by decide +kernel, by decide +kernel, by decide +kernel⟩ ⟨by decide, by decide⟩ rfl)) (ok_nd (ok_lf (ok_IStn d_X4_text_22 rfl rfl)) (ok_lf (ok_ALdn d_X4_text_23 rfl rfl)))))) (ok_nd (ok_nd (ok_nd (ok_lf (ok_GetR (by decide) (by decide) rfl d_X4_text_24 q158 rfl)) (ok_nd (ok_lf (ok_ICst d_X4_text_27 (by decide) rfl)) (ok_lf (ok_PutIN (by decide) (by decide) rfl rfl (by decide +kernel) d_X4_text_28 q116 rfl)))) (ok_nd (ok_lf (ok_ILdn d_X4_text_31 rfl rfl)) (ok_nd (ok_lf (ok_IfLt d_X4_text_32 (by decide) rfl)) (ok_lf (ok_ALdn d_X4_text_35 rfl rfl))))) (ok_nd (ok_nd (ok_lf (ok_GetR (by decide) (by decide) rfl d_X4_text_36 q154 rfl)) (ok_nd (ok_lf (ok_ALdn d_X4_text_39 rfl rfl)) (ok_lf (ok_GetR (by decide) (by decide) rfl d_X4_text_40 q155 rfl)))) (ok_nd (ok_lf (ok_CaVN su_X0_become (by decide) rfl d_X4_text_43 q365 q367 z28 q2 q368 ⟨by decide +kernel, by decide +kernel, by decide +kernel⟩ ⟨by decide, by decide⟩ rfl)) (ok_nd (ok_lf (ok_ILdn d_X4_text_46 rfl rfl)) (ok_lf (ok_IRet d_X4_text_47))))))
noncomputable def S_X4_text : Sem := lockS (inl P_X4_text 26 2) 0
theorem su_X4_text {l : Launch} {G : Gm} : SemU l G yX4_text (wsOf yX4_text cX4_text 2 (some .int)) 9 S_X4_text := sem_lock (sem_inl 26 (by decide +kernel) rfl ok_X4_text)
theorem d_X4_hold_0 : decode cX4_hold 0 = .ok (.iload_n 1, 1) := by decide +kernel
theorem d_X4_hold_1 : decode cX4_hold 1 = .ok (.iconst 0, 1) := by decide +kernel
theorem d_X4_hold_2 : decode cX4_hold 2 = .ok (.bipush 9, 2) := by decide +kernel
theorem d_X4_hold_4 : decode cX4_hold 4 = .ok (.invokestatic 44, 3) := by decide +kernel
theorem d_X4_hold_7 : decode cX4_hold 7 = .ok (.ifCond .eq 19, 3) := by decide +kernel
theorem d_X4_hold_10 : decode cX4_hold 10 = .ok (.iload_n 2, 1) := by decide +kernel
theorem d_X4_hold_11 : decode cX4_hold 11 = .ok (.iconst (-1), 1) := by decide +kernel
theorem d_X4_hold_12 : decode cX4_hold 12 = .ok (.if_icmp .eq 21, 3) := by decide +kernel
theorem d_X4_hold_15 : decode cX4_hold 15 = .ok (.aload_n 0, 1) := by decide +kernel
theorem d_X4_hold_16 : decode cX4_hold 16 = .ok (.getfield 12, 3) := by decide +kernel
theorem d_X4_hold_19 : decode cX4_hold 19 = .ok (.iload_n 2, 1) := by decide +kernel
theorem d_X4_hold_20 : decode cX4_hold 20 = .ok (.invokevirtual 82, 3) := by decide +kernel
theorem d_X4_hold_23 : decode cX4_hold 23 = .ok (.ifCond .ne 10, 3) := by decide +kernel
theorem d_X4_hold_26 : decode cX4_hold 26 = .ok (.aload_n 0, 1) := by decide +kernel
theorem d_X4_hold_27 : decode cX4_hold 27 = .ok (.ldc 55, 2) := by decide +kernel
theorem d_X4_hold_29 : decode cX4_hold 29 = .ok (.invokevirtual 56, 3) := by decide +kernel
theorem d_X4_hold_32 : decode cX4_hold 32 = .ok (.ireturn, 1) := by decide +kernel
theorem d_X4_hold_33 : decode cX4_hold 33 = .ok (.aload_n 0, 1) := by decide +kernel
theorem d_X4_hold_34 : decode cX4_hold 34 = .ok (.getfield 12, 3) := by decide +kernel
theorem d_X4_hold_37 : decode cX4_hold 37 = .ok (.getfield 198, 3) := by decide +kernel
theorem d_X4_hold_40 : decode cX4_hold 40 = .ok (.iload_n 1, 1) := by decide +kernel
theorem d_X4_hold_41 : decode cX4_hold 41 = .ok (.iload_n 2, 1) := by decide +kernel
theorem d_X4_hold_42 : decode cX4_hold 42 = .ok (.iastore, 1) := by decide +kernel
theorem d_X4_hold_43 : decode cX4_hold 43 = .ok (.iconst 1, 1) := by decide +kernel
theorem d_X4_hold_44 : decode cX4_hold 44 = .ok (.ireturn, 1) := by decide +kernel
noncomputable def P_X4_hold : Nat → Op := fun pc => nd 23 pc (nd 11 pc (nd 4 pc (nd 1 pc (lf 0 pc (oILd 1 1)) (nd 2 pc (lf 1 pc (oCst 0 2)) (lf 2 pc (oCst 9 4)))) (nd 7 pc (lf 4 pc (oCaS 3 S_X4_isWithin 7)) (nd 10 pc (lf 7 pc (oIfEq 26 10)) (lf 10 pc (oILd 2 11))))) (nd 16 pc (nd 12 pc (lf 11 pc (oCst (-1) 12)) (nd 15 pc (lf 12 pc (oCpEq 33 15)) (lf 15 pc (oALd 0 16)))) (nd 19 pc (lf 16 pc (oGetR 4 0 19)) (nd 20 pc (lf 19 pc (oILd 2 20)) (lf 20 pc (oCaV 2 0 S_X0_has 23)))))) (nd 34 pc (nd 29 pc (nd 26 pc (lf 23 pc (oIfEq 26 33)) (nd 27 pc (lf 26 pc (oALd 0 27)) (lf 27 pc (oCst (-1000001) 29)))) (nd 32 pc (lf 29 pc (oCaV 2 4 S_X4_tell 32)) (nd 33 pc (lf 32 pc (oIRet)) (lf 33 pc (oALd 0 34))))) (nd 41 pc (nd 37 pc (lf 34 pc (oGetR 4 0 37)) (nd 40 pc (lf 37 pc (oGetR 0 6 40)) (lf 40 pc (oILd 1 41)))) (nd 43 pc (nd 42 pc (lf 41 pc (oILd 2 42)) (lf 42 pc (oIAS 43))) (nd 44 pc (lf 43 pc (oCst 1 44)) (lf 44 pc (oIRet))))))
theorem ok_X4_hold {l : Launch} {G : Gm} : ∀ pc, OkU (TXm l G (rmD 3) 3 cX4_hold RX4) (RXm l G (rmD 3) 3 cX4_hold RX4 (some .int)) pc (P_X4_hold pc) := fun pc => ok_nd (ok_nd (ok_nd (ok_nd (ok_lf (ok_ILdn d_X4_hold_0 rfl rfl)) (ok_nd (ok_lf (ok_ICst d_X4_hold_1 (by decide) rfl)) (ok_lf (ok_BCst d_X4_hold_2 (by decide) rfl)))) (ok_nd (ok_lf (ok_CaS su_X4_isWithin d_X4_hold_4 q180 q181 q1 q182 ⟨by decide +kernel, by decide +kernel, by decide +kernel⟩ ⟨by decide, by decide⟩ rfl)) (ok_nd (ok_lf (ok_IfEq d_X4_hold_7 (by decide) rfl)) (ok_lf (ok_ILdn d_X4_hold_10 rfl rfl))))) (ok_nd (ok_nd (ok_lf (ok_ICst d_X4_hold_11 (by decide) rfl)) (ok_nd (ok_lf (ok_CpEq d_X4_hold_12 (by decide) rfl)) (ok_lf (ok_ALdn d_X4_hold_15 rfl rfl)))) (ok_nd (ok_lf (ok_GetR (by decide) (by decide) rfl d_X4_hold_16 q154 rfl)) (ok_nd (ok_lf (ok_ILdn d_X4_hold_19 rfl rfl)) (ok_lf (ok_CaVN su_X0_has (by decide) rfl d_X4_hold_20 q227 q229 z4 q2 q230 ⟨by decide +kernel, by decide +kernel, by decide +kernel⟩ ⟨by decide, by decide⟩ rfl)))))) (ok_nd (ok_nd (ok_nd (ok_lf (ok_IfNe d_X4_hold_23 (by decide) rfl)) (ok_nd (ok_lf (ok_ALdn d_X4_hold_26 rfl rfl)) (ok_lf (ok_Ldc d_X4_hold_27 q183 rfl)))) (ok_nd (ok_lf (ok_CaV su_X4_tell (by decide) rfl d_X4_hold_29 q184 q186 z0 q1 q187 ⟨by decide +kernel, by decide +kernel, by decide +kernel⟩ ⟨by decide, by decide⟩ rfl)) (ok_nd (ok_lf (ok_IRet d_X4_hold_32)) (ok_lf (ok_ALdn d_X4_hold_33 rfl rfl))))) (ok_nd (ok_nd (ok_lf (ok_GetR (by decide) (by decide) rfl d_X4_hold_34 q154 rfl)) (ok_nd (ok_lf (ok_GetRN (by decide) (by decide) rfl d_X4_hold_37 q83 rfl)) (ok_lf (ok_ILdn d_X4_hold_40 rfl rfl)))) (ok_nd (ok_nd (ok_lf (ok_ILdn d_X4_hold_41 rfl rfl)) (ok_lf (ok_IAS d_X4_hold_42 rfl))) (ok_nd (ok_lf (ok_ICst d_X4_hold_43 (by decide) rfl)) (ok_lf (ok_IRet d_X4_hold_44))))))
noncomputable def S_X4_hold : Sem := lockS (inl P_X4_hold 27 3) 0
theorem su_X4_hold {l : Launch} {G : Gm} : SemU l G yX4_hold (wsOf yX4_hold cX4_hold 3 (some .int)) 3 S_X4_hold := sem_lock (sem_inl 27 (by decide +kernel) rfl ok_X4_hold)
theorem d_X4_as_0 : decode cX4_as 0 = .ok (.iload_n 1, 1) := by decide +kernel
theorem d_X4_as_1 : decode cX4_as 1 = .ok (.iconst 0, 1) := by decide +kernel
theorem d_X4_as_2 : decode cX4_as 2 = .ok (.bipush 9, 2) := by decide +kernel
theorem d_X4_as_4 : decode cX4_as 4 = .ok (.invokestatic 44, 3) := by decide +kernel
theorem d_X4_as_7 : decode cX4_as 7 = .ok (.ifCond .eq 13, 3) := by decide +kernel
theorem d_X4_as_10 : decode cX4_as 10 = .ok (.iload_n 2, 1) := by decide +kernel
theorem d_X4_as_11 : decode cX4_as 11 = .ok (.iconst 0, 1) := by decide +kernel
theorem d_X4_as_12 : decode cX4_as 12 = .ok (.bipush 6, 2) := by decide +kernel
theorem d_X4_as_14 : decode cX4_as 14 = .ok (.invokestatic 44, 3) := by decide +kernel
theorem d_X4_as_17 : decode cX4_as 17 = .ok (.ifCond .ne 10, 3) := by decide +kernel
theorem d_X4_as_20 : decode cX4_as 20 = .ok (.aload_n 0, 1) := by decide +kernel
theorem d_X4_as_21 : decode cX4_as 21 = .ok (.ldc 55, 2) := by decide +kernel
theorem d_X4_as_23 : decode cX4_as 23 = .ok (.invokevirtual 56, 3) := by decide +kernel
theorem d_X4_as_26 : decode cX4_as 26 = .ok (.ireturn, 1) := by decide +kernel
theorem d_X4_as_27 : decode cX4_as 27 = .ok (.aload_n 0, 1) := by decide +kernel
theorem d_X4_as_28 : decode cX4_as 28 = .ok (.getfield 12, 3) := by decide +kernel
theorem d_X4_as_31 : decode cX4_as 31 = .ok (.getfield 198, 3) := by decide +kernel
theorem d_X4_as_34 : decode cX4_as 34 = .ok (.iload_n 1, 1) := by decide +kernel
theorem d_X4_as_35 : decode cX4_as 35 = .ok (.iaload, 1) := by decide +kernel
theorem d_X4_as_36 : decode cX4_as 36 = .ok (.istore_n 3, 1) := by decide +kernel
theorem d_X4_as_37 : decode cX4_as 37 = .ok (.aload_n 0, 1) := by decide +kernel
theorem d_X4_as_38 : decode cX4_as 38 = .ok (.getfield 12, 3) := by decide +kernel
theorem d_X4_as_41 : decode cX4_as 41 = .ok (.iload_n 3, 1) := by decide +kernel
theorem d_X4_as_42 : decode cX4_as 42 = .ok (.invokevirtual 82, 3) := by decide +kernel
theorem d_X4_as_45 : decode cX4_as 45 = .ok (.ifCond .ne 10, 3) := by decide +kernel
theorem d_X4_as_48 : decode cX4_as 48 = .ok (.aload_n 0, 1) := by decide +kernel
theorem d_X4_as_49 : decode cX4_as 49 = .ok (.ldc 201, 2) := by decide +kernel
theorem d_X4_as_51 : decode cX4_as 51 = .ok (.invokevirtual 56, 3) := by decide +kernel
theorem d_X4_as_54 : decode cX4_as 54 = .ok (.ireturn, 1) := by decide +kernel
theorem d_X4_as_55 : decode cX4_as 55 = .ok (.aload_n 0, 1) := by decide +kernel
theorem d_X4_as_56 : decode cX4_as 56 = .ok (.getfield 12, 3) := by decide +kernel
theorem d_X4_as_59 : decode cX4_as 59 = .ok (.getfield 87, 3) := by decide +kernel
theorem d_X4_as_62 : decode cX4_as 62 = .ok (.iload_n 3, 1) := by decide +kernel
theorem d_X4_as_63 : decode cX4_as 63 = .ok (.aaload, 1) := by decide +kernel
theorem d_X4_as_64 : decode cX4_as 64 = .ok (.iload_n 2, 1) := by decide +kernel
theorem d_X4_as_65 : decode cX4_as 65 = .ok (.invokevirtual 202, 3) := by decide +kernel
theorem d_X4_as_68 : decode cX4_as 68 = .ok (.ifCond .eq 7, 3) := by decide +kernel
theorem d_X4_as_71 : decode cX4_as 71 = .ok (.iload_n 3, 1) := by decide +kernel
theorem d_X4_as_72 : decode cX4_as 72 = .ok (.goto 9, 3) := by decide +kernel
theorem d_X4_as_75 : decode cX4_as 75 = .ok (.aload_n 0, 1) := by decide +kernel
theorem d_X4_as_76 : decode cX4_as 76 = .ok (.ldc 205, 2) := by decide +kernel
theorem d_X4_as_78 : decode cX4_as 78 = .ok (.invokevirtual 56, 3) := by decide +kernel
theorem d_X4_as_81 : decode cX4_as 81 = .ok (.ireturn, 1) := by decide +kernel
noncomputable def P_X4_as : Nat → Op := fun pc => nd 38 pc (nd 20 pc (nd 10 pc (nd 2 pc (nd 1 pc (lf 0 pc (oILd 1 1)) (lf 1 pc (oCst 0 2))) (nd 4 pc (lf 2 pc (oCst 9 4)) (nd 7 pc (lf 4 pc (oCaS 3 S_X4_isWithin 7)) (lf 7 pc (oIfEq 20 10))))) (nd 12 pc (nd 11 pc (lf 10 pc (oILd 2 11)) (lf 11 pc (oCst 0 12))) (nd 14 pc (lf 12 pc (oCst 6 14)) (nd 17 pc (lf 14 pc (oCaS 3 S_X4_isWithin 17)) (lf 17 pc (oIfEq 20 27)))))) (nd 28 pc (nd 23 pc (nd 21 pc (lf 20 pc (oALd 0 21)) (lf 21 pc (oCst (-1000001) 23))) (nd 26 pc (lf 23 pc (oCaV 2 4 S_X4_tell 26)) (nd 27 pc (lf 26 pc (oIRet)) (lf 27 pc (oALd 0 28))))) (nd 35 pc (nd 31 pc (lf 28 pc (oGetR 4 0 31)) (nd 34 pc (lf 31 pc (oGetR 0 6 34)) (lf 34 pc (oILd 1 35)))) (nd 36 pc (lf 35 pc (oIAL 36)) (nd 37 pc (lf 36 pc (oISt 3 37)) (lf 37 pc (oALd 0 38))))))) (nd 62 pc (nd 49 pc (nd 42 pc (nd 41 pc (lf 38 pc (oGetR 4 0 41)) (lf 41 pc (oILd 3 42))) (nd 45 pc (lf 42 pc (oCaV 2 0 S_X0_has 45)) (nd 48 pc (lf 45 pc (oIfEq 48 55)) (lf 48 pc (oALd 0 49))))) (nd 55 pc (nd 51 pc (lf 49 pc (oCst (-1000006) 51)) (nd 54 pc (lf 51 pc (oCaV 2 4 S_X4_tell 54)) (lf 54 pc (oIRet)))) (nd 56 pc (lf 55 pc (oALd 0 56)) (nd 59 pc (lf 56 pc (oGetR 4 0 59)) (lf 59 pc (oGetR 0 8 62)))))) (nd 71 pc (nd 64 pc (nd 63 pc (lf 62 pc (oILd 3 63)) (lf 63 pc (oAAL 7 64))) (nd 65 pc (lf 64 pc (oILd 2 65)) (nd 68 pc (lf 65 pc (oCaV 2 1 S_X1_isOne 68)) (lf 68 pc (oIfEq 75 71))))) (nd 76 pc (nd 72 pc (lf 71 pc (oILd 3 72)) (nd 75 pc (lf 72 pc (oGo 81)) (lf 75 pc (oALd 0 76)))) (nd 78 pc (lf 76 pc (oCst (-1000003) 78)) (nd 81 pc (lf 78 pc (oCaV 2 4 S_X4_tell 81)) (lf 81 pc (oIRet)))))))
theorem ok_X4_as {l : Launch} {G : Gm} : ∀ pc, OkU (TXm l G (rmD 3) 4 cX4_as RX4) (RXm l G (rmD 3) 4 cX4_as RX4 (some .int)) pc (P_X4_as pc) := fun pc => ok_nd (ok_nd (ok_nd (ok_nd (ok_nd (ok_lf (ok_ILdn d_X4_as_0 rfl rfl)) (ok_lf (ok_ICst d_X4_as_1 (by decide) rfl))) (ok_nd (ok_lf (ok_BCst d_X4_as_2 (by decide) rfl)) (ok_nd (ok_lf (ok_CaS su_X4_isWithin d_X4_as_4 q180 q181 q1 q182 ⟨by decide +kernel, by decide +kernel, by decide +kernel⟩ ⟨by decide, by decide⟩ rfl)) (ok_lf (ok_IfEq d_X4_as_7 (by decide) rfl))))) (ok_nd (ok_nd (ok_lf (ok_ILdn d_X4_as_10 rfl rfl)) (ok_lf (ok_ICst d_X4_as_11 (by decide) rfl))) (ok_nd (ok_lf (ok_BCst d_X4_as_12 (by decide) rfl)) (ok_nd (ok_lf (ok_CaS su_X4_isWithin d_X4_as_14 q180 q181 q1 q182 ⟨by decide +kernel, by decide +kernel, by decide +kernel⟩ ⟨by decide, by decide⟩ rfl)) (ok_lf (ok_IfNe d_X4_as_17 (by decide) rfl)))))) (ok_nd (ok_nd (ok_nd (ok_lf (ok_ALdn d_X4_as_20 rfl rfl)) (ok_lf (ok_Ldc d_X4_as_21 q183 rfl))) (ok_nd (ok_lf (ok_CaV su_X4_tell (by decide) rfl d_X4_as_23 q184 q186 z0 q1 q187 ⟨by decide +kernel, by decide +kernel, by decide +kernel⟩ ⟨by decide, by decide⟩ rfl)) (ok_nd (ok_lf (ok_IRet d_X4_as_26)) (ok_lf (ok_ALdn d_X4_as_27 rfl rfl))))) (ok_nd (ok_nd (ok_lf (ok_GetR (by decide) (by decide) rfl d_X4_as_28 q154 rfl)) (ok_nd (ok_lf (ok_GetRN (by decide) (by decide) rfl d_X4_as_31 q83 rfl)) (ok_lf (ok_ILdn d_X4_as_34 rfl rfl)))) (ok_nd (ok_lf (ok_IAL d_X4_as_35 rfl)) (ok_nd (ok_lf (ok_IStn d_X4_as_36 rfl rfl)) (ok_lf (ok_ALdn d_X4_as_37 rfl rfl))))))) (ok_nd (ok_nd (ok_nd (ok_nd (ok_lf (ok_GetR (by decide) (by decide) rfl d_X4_as_38 q154 rfl)) (ok_lf (ok_ILdn d_X4_as_41 rfl rfl))) (ok_nd (ok_lf (ok_CaVN su_X0_has (by decide) rfl d_X4_as_42 q227 q229 z4 q2 q230 ⟨by decide +kernel, by decide +kernel, by decide +kernel⟩ ⟨by decide, by decide⟩ rfl)) (ok_nd (ok_lf (ok_IfNe d_X4_as_45 (by decide) rfl)) (ok_lf (ok_ALdn d_X4_as_48 rfl rfl))))) (ok_nd (ok_nd (ok_lf (ok_Ldc d_X4_as_49 q457 rfl)) (ok_nd (ok_lf (ok_CaV su_X4_tell (by decide) rfl d_X4_as_51 q184 q186 z0 q1 q187 ⟨by decide +kernel, by decide +kernel, by decide +kernel⟩ ⟨by decide, by decide⟩ rfl)) (ok_lf (ok_IRet d_X4_as_54)))) (ok_nd (ok_lf (ok_ALdn d_X4_as_55 rfl rfl)) (ok_nd (ok_lf (ok_GetR (by decide) (by decide) rfl d_X4_as_56 q154 rfl)) (ok_lf (ok_GetRN (by decide) (by decide) rfl d_X4_as_59 q88 rfl)))))) (ok_nd (ok_nd (ok_nd (ok_lf (ok_ILdn d_X4_as_62 rfl rfl)) (ok_lf (ok_AAL (by decide) (by decide) d_X4_as_63 rfl))) (ok_nd (ok_lf (ok_ILdn d_X4_as_64 rfl rfl)) (ok_nd (ok_lf (ok_CaVN su_X1_isOne (by decide) rfl d_X4_as_65 q625 q627 z50 q3 q628 ⟨by decide +kernel, by decide +kernel, by decide +kernel⟩ ⟨by decide, by decide⟩ rfl)) (ok_lf (ok_IfEq d_X4_as_68 (by decide) rfl))))) (ok_nd (ok_nd (ok_lf (ok_ILdn d_X4_as_71 rfl rfl)) (ok_nd (ok_lf (ok_Go d_X4_as_72 (by decide))) (ok_lf (ok_ALdn d_X4_as_75 rfl rfl)))) (ok_nd (ok_lf (ok_Ldc d_X4_as_76 q629 rfl)) (ok_nd (ok_lf (ok_CaV su_X4_tell (by decide) rfl d_X4_as_78 q184 q186 z0 q1 q187 ⟨by decide +kernel, by decide +kernel, by decide +kernel⟩ ⟨by decide, by decide⟩ rfl)) (ok_lf (ok_IRet d_X4_as_81)))))))
noncomputable def S_X4_as : Sem := lockS (inl P_X4_as 45 4) 0
theorem su_X4_as {l : Launch} {G : Gm} : SemU l G yX4_as (wsOf yX4_as cX4_as 4 (some .int)) 3 S_X4_as := sem_lock (sem_inl 45 (by decide +kernel) rfl ok_X4_as)
theorem d_X4_sheet_0 : decode cX4_sheet 0 = .ok (.iload_n 2, 1) := by decide +kernel
theorem d_X4_sheet_1 : decode cX4_sheet 1 = .ok (.ifCond .eq 21, 3) := by decide +kernel
theorem d_X4_sheet_4 : decode cX4_sheet 4 = .ok (.iload_n 2, 1) := by decide +kernel
theorem d_X4_sheet_5 : decode cX4_sheet 5 = .ok (.bipush 8, 2) := by decide +kernel
theorem d_X4_sheet_7 : decode cX4_sheet 7 = .ok (.if_icmp .eq 15, 3) := by decide +kernel
theorem d_X4_sheet_10 : decode cX4_sheet 10 = .ok (.iload_n 2, 1) := by decide +kernel
theorem d_X4_sheet_11 : decode cX4_sheet 11 = .ok (.bipush 16, 2) := by decide +kernel
theorem d_X4_sheet_13 : decode cX4_sheet 13 = .ok (.if_icmp .eq 9, 3) := by decide +kernel
theorem d_X4_sheet_16 : decode cX4_sheet 16 = .ok (.iload_n 2, 1) := by decide +kernel
theorem d_X4_sheet_17 : decode cX4_sheet 17 = .ok (.bipush 32, 2) := by decide +kernel
theorem d_X4_sheet_19 : decode cX4_sheet 19 = .ok (.if_icmp .ne 7, 3) := by decide +kernel
theorem d_X4_sheet_22 : decode cX4_sheet 22 = .ok (.iconst 1, 1) := by decide +kernel
theorem d_X4_sheet_23 : decode cX4_sheet 23 = .ok (.goto 4, 3) := by decide +kernel
theorem d_X4_sheet_26 : decode cX4_sheet 26 = .ok (.iconst 0, 1) := by decide +kernel
theorem d_X4_sheet_27 : decode cX4_sheet 27 = .ok (.istore 4, 2) := by decide +kernel
theorem d_X4_sheet_29 : decode cX4_sheet 29 = .ok (.iload_n 1, 1) := by decide +kernel
theorem d_X4_sheet_30 : decode cX4_sheet 30 = .ok (.invokestatic 206, 3) := by decide +kernel
theorem d_X4_sheet_33 : decode cX4_sheet 33 = .ok (.ifCond .eq 8, 3) := by decide +kernel
theorem d_X4_sheet_36 : decode cX4_sheet 36 = .ok (.iload 4, 2) := by decide +kernel
theorem d_X4_sheet_38 : decode cX4_sheet 38 = .ok (.ifCond .ne 10, 3) := by decide +kernel
theorem d_X4_sheet_41 : decode cX4_sheet 41 = .ok (.aload_n 0, 1) := by decide +kernel
theorem d_X4_sheet_42 : decode cX4_sheet 42 = .ok (.ldc 55, 2) := by decide +kernel
theorem d_X4_sheet_44 : decode cX4_sheet 44 = .ok (.invokevirtual 56, 3) := by decide +kernel
theorem d_X4_sheet_47 : decode cX4_sheet 47 = .ok (.ireturn, 1) := by decide +kernel
theorem d_X4_sheet_48 : decode cX4_sheet 48 = .ok (.iload_n 3, 1) := by decide +kernel
theorem d_X4_sheet_49 : decode cX4_sheet 49 = .ok (.ifCond .ge 10, 3) := by decide +kernel
theorem d_X4_sheet_52 : decode cX4_sheet 52 = .ok (.aload_n 0, 1) := by decide +kernel
theorem d_X4_sheet_53 : decode cX4_sheet 53 = .ok (.ldc 209, 2) := by decide +kernel
theorem d_X4_sheet_55 : decode cX4_sheet 55 = .ok (.invokevirtual 56, 3) := by decide +kernel
theorem d_X4_sheet_58 : decode cX4_sheet 58 = .ok (.ireturn, 1) := by decide +kernel
theorem d_X4_sheet_59 : decode cX4_sheet 59 = .ok (.iload_n 3, 1) := by decide +kernel
theorem d_X4_sheet_60 : decode cX4_sheet 60 = .ok (.bipush 40, 2) := by decide +kernel
theorem d_X4_sheet_62 : decode cX4_sheet 62 = .ok (.if_icmp .le 10, 3) := by decide +kernel
theorem d_X4_sheet_65 : decode cX4_sheet 65 = .ok (.aload_n 0, 1) := by decide +kernel
theorem d_X4_sheet_66 : decode cX4_sheet 66 = .ok (.ldc 55, 2) := by decide +kernel
theorem d_X4_sheet_68 : decode cX4_sheet 68 = .ok (.invokevirtual 56, 3) := by decide +kernel
theorem d_X4_sheet_71 : decode cX4_sheet 71 = .ok (.ireturn, 1) := by decide +kernel
theorem d_X4_sheet_72 : decode cX4_sheet 72 = .ok (.aload_n 0, 1) := by decide +kernel
theorem d_X4_sheet_73 : decode cX4_sheet 73 = .ok (.getfield 35, 3) := by decide +kernel
theorem d_X4_sheet_76 : decode cX4_sheet 76 = .ok (.iload_n 1, 1) := by decide +kernel
theorem d_X4_sheet_77 : decode cX4_sheet 77 = .ok (.aaload, 1) := by decide +kernel
theorem d_X4_sheet_78 : decode cX4_sheet 78 = .ok (.iload_n 2, 1) := by decide +kernel
theorem d_X4_sheet_79 : decode cX4_sheet 79 = .ok (.iload_n 2, 1) := by decide +kernel
theorem d_X4_sheet_80 : decode cX4_sheet 80 = .ok (.ifCond .ne 7, 3) := by decide +kernel
theorem d_X4_sheet_83 : decode cX4_sheet 83 = .ok (.iconst 0, 1) := by decide +kernel
theorem d_X4_sheet_84 : decode cX4_sheet 84 = .ok (.goto 4, 3) := by decide +kernel
theorem d_X4_sheet_87 : decode cX4_sheet 87 = .ok (.iload_n 3, 1) := by decide +kernel
theorem d_X4_sheet_88 : decode cX4_sheet 88 = .ok (.invokevirtual 210, 3) := by decide +kernel
theorem d_X4_sheet_91 : decode cX4_sheet 91 = .ok (.aload_n 0, 1) := by decide +kernel
theorem d_X4_sheet_92 : decode cX4_sheet 92 = .ok (.getfield 35, 3) := by decide +kernel
theorem d_X4_sheet_95 : decode cX4_sheet 95 = .ok (.iload_n 1, 1) := by decide +kernel
theorem d_X4_sheet_96 : decode cX4_sheet 96 = .ok (.aaload, 1) := by decide +kernel
theorem d_X4_sheet_97 : decode cX4_sheet 97 = .ok (.getfield 213, 3) := by decide +kernel
theorem d_X4_sheet_100 : decode cX4_sheet 100 = .ok (.ireturn, 1) := by decide +kernel
noncomputable def P_X4_sheet : Nat → Op := fun pc => nd 53 pc (nd 26 pc (nd 11 pc (nd 5 pc (nd 1 pc (lf 0 pc (oILd 2 1)) (nd 4 pc (lf 1 pc (oIfEq 22 4)) (lf 4 pc (oILd 2 5)))) (nd 7 pc (lf 5 pc (oCst 8 7)) (nd 10 pc (lf 7 pc (oCpEq 22 10)) (lf 10 pc (oILd 2 11))))) (nd 17 pc (nd 13 pc (lf 11 pc (oCst 16 13)) (nd 16 pc (lf 13 pc (oCpEq 22 16)) (lf 16 pc (oILd 2 17)))) (nd 22 pc (nd 19 pc (lf 17 pc (oCst 32 19)) (lf 19 pc (oCpEq 22 26))) (nd 23 pc (lf 22 pc (oCst 1 23)) (lf 23 pc (oGo 27)))))) (nd 41 pc (nd 30 pc (nd 27 pc (lf 26 pc (oCst 0 27)) (nd 29 pc (lf 27 pc (oISt 4 29)) (lf 29 pc (oILd 1 30)))) (nd 36 pc (nd 33 pc (lf 30 pc (oCaS 1 S_X4_isSheet 33)) (lf 33 pc (oIfEq 41 36))) (nd 38 pc (lf 36 pc (oILd 4 38)) (lf 38 pc (oIfEq 41 48))))) (nd 47 pc (nd 42 pc (lf 41 pc (oALd 0 42)) (nd 44 pc (lf 42 pc (oCst (-1000001) 44)) (lf 44 pc (oCaV 2 4 S_X4_tell 47)))) (nd 49 pc (nd 48 pc (lf 47 pc (oIRet)) (lf 48 pc (oILd 3 49))) (nd 52 pc (lf 49 pc (oIfLt 52 59)) (lf 52 pc (oALd 0 53))))))) (nd 77 pc (nd 65 pc (nd 59 pc (nd 55 pc (lf 53 pc (oCst (-1000007) 55)) (nd 58 pc (lf 55 pc (oCaV 2 4 S_X4_tell 58)) (lf 58 pc (oIRet)))) (nd 60 pc (lf 59 pc (oILd 3 60)) (nd 62 pc (lf 60 pc (oCst 40 62)) (lf 62 pc (oCpGt 65 72))))) (nd 71 pc (nd 66 pc (lf 65 pc (oALd 0 66)) (nd 68 pc (lf 66 pc (oCst (-1000001) 68)) (lf 68 pc (oCaV 2 4 S_X4_tell 71)))) (nd 73 pc (nd 72 pc (lf 71 pc (oIRet)) (lf 72 pc (oALd 0 73))) (nd 76 pc (lf 73 pc (oGetR 4 5 76)) (lf 76 pc (oILd 1 77)))))) (nd 88 pc (nd 80 pc (nd 78 pc (lf 77 pc (oAAL 8 78)) (nd 79 pc (lf 78 pc (oILd 2 79)) (lf 79 pc (oILd 2 80)))) (nd 84 pc (nd 83 pc (lf 80 pc (oIfEq 83 87)) (lf 83 pc (oCst 0 84))) (nd 87 pc (lf 84 pc (oGo 88)) (lf 87 pc (oILd 3 88))))) (nd 95 pc (nd 91 pc (lf 88 pc (oCaV 3 2 S_X2_renew 91)) (nd 92 pc (lf 91 pc (oALd 0 92)) (lf 92 pc (oGetR 4 5 95)))) (nd 97 pc (nd 96 pc (lf 95 pc (oILd 1 96)) (lf 96 pc (oAAL 8 97))) (nd 100 pc (lf 97 pc (oGetI 2 1 100)) (lf 100 pc (oIRet)))))))
theorem ok_X4_sheet {l : Launch} {G : Gm} : ∀ pc, OkU (TXm l G (rmD 3) 5 cX4_sheet RX4) (RXm l G (rmD 3) 5 cX4_sheet RX4 (some .int)) pc (P_X4_sheet pc) := fun pc => ok_nd (ok_nd (ok_nd (ok_nd (ok_nd (ok_lf (ok_ILdn d_X4_sheet_0 rfl rfl)) (ok_nd (ok_lf (ok_IfEq d_X4_sheet_1 (by decide) rfl)) (ok_lf (ok_ILdn d_X4_sheet_4 rfl rfl)))) (ok_nd (ok_lf (ok_BCst d_X4_sheet_5 (by decide) rfl)) (ok_nd (ok_lf (ok_CpEq d_X4_sheet_7 (by decide) rfl)) (ok_lf (ok_ILdn d_X4_sheet_10 rfl rfl))))) (ok_nd (ok_nd (ok_lf (ok_BCst d_X4_sheet_11 (by decide) rfl)) (ok_nd (ok_lf (ok_CpEq d_X4_sheet_13 (by decide) rfl)) (ok_lf (ok_ILdn d_X4_sheet_16 rfl rfl)))) (ok_nd (ok_nd (ok_lf (ok_BCst d_X4_sheet_17 (by decide) rfl)) (ok_lf (ok_CpNe d_X4_sheet_19 (by decide) rfl))) (ok_nd (ok_lf (ok_ICst d_X4_sheet_22 (by decide) rfl)) (ok_lf (ok_Go d_X4_sheet_23 (by decide))))))) (ok_nd (ok_nd (ok_nd (ok_lf (ok_ICst d_X4_sheet_26 (by decide) rfl)) (ok_nd (ok_lf (ok_ISt d_X4_sheet_27 rfl)) (ok_lf (ok_ILdn d_X4_sheet_29 rfl rfl)))) (ok_nd (ok_nd (ok_lf (ok_CaS su_X4_isSheet d_X4_sheet_30 q450 q451 q1 q452 ⟨by decide +kernel, by decide +kernel, by decide +kernel⟩ ⟨by decide, by decide⟩ rfl)) (ok_lf (ok_IfEq d_X4_sheet_33 (by decide) rfl))) (ok_nd (ok_lf (ok_ILd d_X4_sheet_36 rfl)) (ok_lf (ok_IfNe d_X4_sheet_38 (by decide) rfl))))) (ok_nd (ok_nd (ok_lf (ok_ALdn d_X4_sheet_41 rfl rfl)) (ok_nd (ok_lf (ok_Ldc d_X4_sheet_42 q183 rfl)) (ok_lf (ok_CaV su_X4_tell (by decide) rfl d_X4_sheet_44 q184 q186 z0 q1 q187 ⟨by decide +kernel, by decide +kernel, by decide +kernel⟩ ⟨by decide, by decide⟩ rfl)))) (ok_nd (ok_nd (ok_lf (ok_IRet d_X4_sheet_47)) (ok_lf (ok_ILdn d_X4_sheet_48 rfl rfl))) (ok_nd (ok_lf (ok_IfGe d_X4_sheet_49 (by decide) rfl)) (ok_lf (ok_ALdn d_X4_sheet_52 rfl rfl))))))) (ok_nd (ok_nd (ok_nd (ok_nd (ok_lf (ok_Ldc d_X4_sheet_53 q634 rfl)) (ok_nd (ok_lf (ok_CaV su_X4_tell (by decide) rfl d_X4_sheet_55 q184 q186 z0 q1 q187 ⟨by decide +kernel, by decide +kernel, by decide +kernel⟩ ⟨by decide, by decide⟩ rfl)) (ok_lf (ok_IRet d_X4_sheet_58)))) (ok_nd (ok_lf (ok_ILdn d_X4_sheet_59 rfl rfl)) (ok_nd (ok_lf (ok_BCst d_X4_sheet_60 (by decide) rfl)) (ok_lf (ok_CpLe d_X4_sheet_62 (by decide) rfl))))) (ok_nd (ok_nd (ok_lf (ok_ALdn d_X4_sheet_65 rfl rfl)) (ok_nd (ok_lf (ok_Ldc d_X4_sheet_66 q183 rfl)) (ok_lf (ok_CaV su_X4_tell (by decide) rfl d_X4_sheet_68 q184 q186 z0 q1 q187 ⟨by decide +kernel, by decide +kernel, by decide +kernel⟩ ⟨by decide, by decide⟩ rfl)))) (ok_nd (ok_nd (ok_lf (ok_IRet d_X4_sheet_71)) (ok_lf (ok_ALdn d_X4_sheet_72 rfl rfl))) (ok_nd (ok_lf (ok_GetR (by decide) (by decide) rfl d_X4_sheet_73 q159 rfl)) (ok_lf (ok_ILdn d_X4_sheet_76 rfl rfl)))))) (ok_nd (ok_nd (ok_nd (ok_lf (ok_AAL (by decide) (by decide) d_X4_sheet_77 rfl)) (ok_nd (ok_lf (ok_ILdn d_X4_sheet_78 rfl rfl)) (ok_lf (ok_ILdn d_X4_sheet_79 rfl rfl)))) (ok_nd (ok_nd (ok_lf (ok_IfNe d_X4_sheet_80 (by decide) rfl)) (ok_lf (ok_ICst d_X4_sheet_83 (by decide) rfl))) (ok_nd (ok_lf (ok_Go d_X4_sheet_84 (by decide))) (ok_lf (ok_ILdn d_X4_sheet_87 rfl rfl))))) (ok_nd (ok_nd (ok_lf (ok_CaVN su_X2_renew (by decide) rfl d_X4_sheet_88 q635 q637 z51 q5 q638 ⟨by decide +kernel, by decide +kernel, by decide +kernel⟩ ⟨by decide, by decide⟩ rfl)) (ok_nd (ok_lf (ok_ALdn d_X4_sheet_91 rfl rfl)) (ok_lf (ok_GetR (by decide) (by decide) rfl d_X4_sheet_92 q159 rfl)))) (ok_nd (ok_nd (ok_lf (ok_ILdn d_X4_sheet_95 rfl rfl)) (ok_lf (ok_AAL (by decide) (by decide) d_X4_sheet_96 rfl))) (ok_nd (ok_lf (ok_GetIN (by decide) (by decide) rfl d_X4_sheet_97 q144 rfl)) (ok_lf (ok_IRet d_X4_sheet_100)))))))
noncomputable def S_X4_sheet : Sem := lockS (inl P_X4_sheet 56 5) 0
theorem su_X4_sheet {l : Launch} {G : Gm} : SemU l G yX4_sheet (wsOf yX4_sheet cX4_sheet 5 (some .int)) 3 S_X4_sheet := sem_lock (sem_inl 56 (by decide +kernel) rfl ok_X4_sheet)
theorem d_X4_write_0 : decode cX4_write 0 = .ok (.aload_n 0, 1) := by decide +kernel
theorem d_X4_write_1 : decode cX4_write 1 = .ok (.iload_n 1, 1) := by decide +kernel
theorem d_X4_write_2 : decode cX4_write 2 = .ok (.invokevirtual 214, 3) := by decide +kernel
theorem d_X4_write_5 : decode cX4_write 5 = .ok (.istore 4, 2) := by decide +kernel
theorem d_X4_write_7 : decode cX4_write 7 = .ok (.iload 4, 2) := by decide +kernel
theorem d_X4_write_9 : decode cX4_write 9 = .ok (.ifCond .eq 10, 3) := by decide +kernel
theorem d_X4_write_12 : decode cX4_write 12 = .ok (.aload_n 0, 1) := by decide +kernel
theorem d_X4_write_13 : decode cX4_write 13 = .ok (.iload 4, 2) := by decide +kernel
theorem d_X4_write_15 : decode cX4_write 15 = .ok (.invokevirtual 56, 3) := by decide +kernel
theorem d_X4_write_18 : decode cX4_write 18 = .ok (.ireturn, 1) := by decide +kernel
theorem d_X4_write_19 : decode cX4_write 19 = .ok (.iload_n 2, 1) := by decide +kernel
theorem d_X4_write_20 : decode cX4_write 20 = .ok (.iconst 0, 1) := by decide +kernel
theorem d_X4_write_21 : decode cX4_write 21 = .ok (.aload_n 0, 1) := by decide +kernel
theorem d_X4_write_22 : decode cX4_write 22 = .ok (.getfield 35, 3) := by decide +kernel
theorem d_X4_write_25 : decode cX4_write 25 = .ok (.iload_n 1, 1) := by decide +kernel
theorem d_X4_write_26 : decode cX4_write 26 = .ok (.aaload, 1) := by decide +kernel
theorem d_X4_write_27 : decode cX4_write 27 = .ok (.getfield 213, 3) := by decide +kernel
theorem d_X4_write_30 : decode cX4_write 30 = .ok (.iconst 1, 1) := by decide +kernel
theorem d_X4_write_31 : decode cX4_write 31 = .ok (.isub, 1) := by decide +kernel
theorem d_X4_write_32 : decode cX4_write 32 = .ok (.invokestatic 44, 3) := by decide +kernel
theorem d_X4_write_35 : decode cX4_write 35 = .ok (.ifCond .ne 10, 3) := by decide +kernel
theorem d_X4_write_38 : decode cX4_write 38 = .ok (.aload_n 0, 1) := by decide +kernel
theorem d_X4_write_39 : decode cX4_write 39 = .ok (.ldc 55, 2) := by decide +kernel
theorem d_X4_write_41 : decode cX4_write 41 = .ok (.invokevirtual 56, 3) := by decide +kernel
theorem d_X4_write_44 : decode cX4_write 44 = .ok (.ireturn, 1) := by decide +kernel
theorem d_X4_write_45 : decode cX4_write 45 = .ok (.aload_n 0, 1) := by decide +kernel
theorem d_X4_write_46 : decode cX4_write 46 = .ok (.getfield 35, 3) := by decide +kernel
theorem d_X4_write_49 : decode cX4_write 49 = .ok (.iload_n 1, 1) := by decide +kernel
theorem d_X4_write_50 : decode cX4_write 50 = .ok (.aaload, 1) := by decide +kernel
theorem d_X4_write_51 : decode cX4_write 51 = .ok (.iload_n 2, 1) := by decide +kernel
theorem d_X4_write_52 : decode cX4_write 52 = .ok (.iload_n 3, 1) := by decide +kernel
theorem d_X4_write_53 : decode cX4_write 53 = .ok (.invokevirtual 217, 3) := by decide +kernel
theorem d_X4_write_56 : decode cX4_write 56 = .ok (.iconst 1, 1) := by decide +kernel
theorem d_X4_write_57 : decode cX4_write 57 = .ok (.ireturn, 1) := by decide +kernel
noncomputable def P_X4_write : Nat → Op := fun pc => nd 30 pc (nd 15 pc (nd 7 pc (nd 2 pc (nd 1 pc (lf 0 pc (oALd 0 1)) (lf 1 pc (oILd 1 2))) (nd 5 pc (lf 2 pc (oCaV 2 4 S_X4_findingOfSheet 5)) (lf 5 pc (oISt 4 7)))) (nd 12 pc (nd 9 pc (lf 7 pc (oILd 4 9)) (lf 9 pc (oIfEq 19 12))) (nd 13 pc (lf 12 pc (oALd 0 13)) (lf 13 pc (oILd 4 15))))) (nd 21 pc (nd 19 pc (nd 18 pc (lf 15 pc (oCaV 2 4 S_X4_tell 18)) (lf 18 pc (oIRet))) (nd 20 pc (lf 19 pc (oILd 2 20)) (lf 20 pc (oCst 0 21)))) (nd 25 pc (nd 22 pc (lf 21 pc (oALd 0 22)) (lf 22 pc (oGetR 4 5 25))) (nd 26 pc (lf 25 pc (oILd 1 26)) (nd 27 pc (lf 26 pc (oAAL 8 27)) (lf 27 pc (oGetI 2 1 30))))))) (nd 45 pc (nd 38 pc (nd 32 pc (nd 31 pc (lf 30 pc (oCst 1 31)) (lf 31 pc (oBin (fun x y => x - y) 32))) (nd 35 pc (lf 32 pc (oCaS 3 S_X4_isWithin 35)) (lf 35 pc (oIfEq 38 45)))) (nd 41 pc (nd 39 pc (lf 38 pc (oALd 0 39)) (lf 39 pc (oCst (-1000001) 41))) (nd 44 pc (lf 41 pc (oCaV 2 4 S_X4_tell 44)) (lf 44 pc (oIRet))))) (nd 51 pc (nd 49 pc (nd 46 pc (lf 45 pc (oALd 0 46)) (lf 46 pc (oGetR 4 5 49))) (nd 50 pc (lf 49 pc (oILd 1 50)) (lf 50 pc (oAAL 8 51)))) (nd 53 pc (nd 52 pc (lf 51 pc (oILd 2 52)) (lf 52 pc (oILd 3 53))) (nd 56 pc (lf 53 pc (oCaV 3 2 S_X2_put 56)) (nd 57 pc (lf 56 pc (oCst 1 57)) (lf 57 pc (oIRet)))))))
theorem ok_X4_write {l : Launch} {G : Gm} : ∀ pc, OkU (TXm l G (rmD 4) 5 cX4_write RX4) (RXm l G (rmD 4) 5 cX4_write RX4 (some .int)) pc (P_X4_write pc) := fun pc => ok_nd (ok_nd (ok_nd (ok_nd (ok_nd (ok_lf (ok_ALdn d_X4_write_0 rfl rfl)) (ok_lf (ok_ILdn d_X4_write_1 rfl rfl))) (ok_nd (ok_lf (ok_CaV su_X4_findingOfSheet (by decide) rfl d_X4_write_2 q446 q448 z35 q1 q449 ⟨by decide +kernel, by decide +kernel, by decide +kernel⟩ ⟨by decide, by decide⟩ rfl)) (ok_lf (ok_ISt d_X4_write_5 rfl)))) (ok_nd (ok_nd (ok_lf (ok_ILd d_X4_write_7 rfl)) (ok_lf (ok_IfEq d_X4_write_9 (by decide) rfl))) (ok_nd (ok_lf (ok_ALdn d_X4_write_12 rfl rfl)) (ok_lf (ok_ILd d_X4_write_13 rfl))))) (ok_nd (ok_nd (ok_nd (ok_lf (ok_CaV su_X4_tell (by decide) rfl d_X4_write_15 q184 q186 z0 q1 q187 ⟨by decide +kernel, by decide +kernel, by decide +kernel⟩ ⟨by decide, by decide⟩ rfl)) (ok_lf (ok_IRet d_X4_write_18))) (ok_nd (ok_lf (ok_ILdn d_X4_write_19 rfl rfl)) (ok_lf (ok_ICst d_X4_write_20 (by decide) rfl)))) (ok_nd (ok_nd (ok_lf (ok_ALdn d_X4_write_21 rfl rfl)) (ok_lf (ok_GetR (by decide) (by decide) rfl d_X4_write_22 q159 rfl))) (ok_nd (ok_lf (ok_ILdn d_X4_write_25 rfl rfl)) (ok_nd (ok_lf (ok_AAL (by decide) (by decide) d_X4_write_26 rfl)) (ok_lf (ok_GetIN (by decide) (by decide) rfl d_X4_write_27 q144 rfl))))))) (ok_nd (ok_nd (ok_nd (ok_nd (ok_lf (ok_ICst d_X4_write_30 (by decide) rfl)) (ok_lf (ok_isub d_X4_write_31 rfl))) (ok_nd (ok_lf (ok_CaS su_X4_isWithin d_X4_write_32 q180 q181 q1 q182 ⟨by decide +kernel, by decide +kernel, by decide +kernel⟩ ⟨by decide, by decide⟩ rfl)) (ok_lf (ok_IfNe d_X4_write_35 (by decide) rfl)))) (ok_nd (ok_nd (ok_lf (ok_ALdn d_X4_write_38 rfl rfl)) (ok_lf (ok_Ldc d_X4_write_39 q183 rfl))) (ok_nd (ok_lf (ok_CaV su_X4_tell (by decide) rfl d_X4_write_41 q184 q186 z0 q1 q187 ⟨by decide +kernel, by decide +kernel, by decide +kernel⟩ ⟨by decide, by decide⟩ rfl)) (ok_lf (ok_IRet d_X4_write_44))))) (ok_nd (ok_nd (ok_nd (ok_lf (ok_ALdn d_X4_write_45 rfl rfl)) (ok_lf (ok_GetR (by decide) (by decide) rfl d_X4_write_46 q159 rfl))) (ok_nd (ok_lf (ok_ILdn d_X4_write_49 rfl rfl)) (ok_lf (ok_AAL (by decide) (by decide) d_X4_write_50 rfl)))) (ok_nd (ok_nd (ok_lf (ok_ILdn d_X4_write_51 rfl rfl)) (ok_lf (ok_ILdn d_X4_write_52 rfl rfl))) (ok_nd (ok_lf (ok_CaVN su_X2_put (by decide) rfl d_X4_write_53 q643 q645 z52 q5 q646 ⟨by decide +kernel, by decide +kernel, by decide +kernel⟩ ⟨by decide, by decide⟩ rfl)) (ok_nd (ok_lf (ok_ICst d_X4_write_56 (by decide) rfl)) (ok_lf (ok_IRet d_X4_write_57)))))))
noncomputable def S_X4_write : Sem := lockS (inl P_X4_write 36 5) 0
theorem su_X4_write {l : Launch} {G : Gm} : SemU l G yX4_write (wsOf yX4_write cX4_write 5 (some .int)) 4 S_X4_write := sem_lock (sem_inl 36 (by decide +kernel) rfl ok_X4_write)
theorem d_X4_copy_0 : decode cX4_copy 0 = .ok (.iload_n 1, 1) := by decide +kernel
theorem d_X4_copy_1 : decode cX4_copy 1 = .ok (.invokestatic 206, 3) := by decide +kernel
theorem d_X4_copy_4 : decode cX4_copy 4 = .ok (.ifCond .eq 10, 3) := by decide +kernel
theorem d_X4_copy_7 : decode cX4_copy 7 = .ok (.iload_n 3, 1) := by decide +kernel
theorem d_X4_copy_8 : decode cX4_copy 8 = .ok (.invokestatic 206, 3) := by decide +kernel
theorem d_X4_copy_11 : decode cX4_copy 11 = .ok (.ifCond .ne 10, 3) := by decide +kernel
theorem d_X4_copy_14 : decode cX4_copy 14 = .ok (.aload_n 0, 1) := by decide +kernel
theorem d_X4_copy_15 : decode cX4_copy 15 = .ok (.ldc 55, 2) := by decide +kernel
theorem d_X4_copy_17 : decode cX4_copy 17 = .ok (.invokevirtual 56, 3) := by decide +kernel
theorem d_X4_copy_20 : decode cX4_copy 20 = .ok (.ireturn, 1) := by decide +kernel
theorem d_X4_copy_21 : decode cX4_copy 21 = .ok (.aload_n 0, 1) := by decide +kernel
theorem d_X4_copy_22 : decode cX4_copy 22 = .ok (.getfield 35, 3) := by decide +kernel
theorem d_X4_copy_25 : decode cX4_copy 25 = .ok (.iload_n 1, 1) := by decide +kernel
theorem d_X4_copy_26 : decode cX4_copy 26 = .ok (.aaload, 1) := by decide +kernel
theorem d_X4_copy_27 : decode cX4_copy 27 = .ok (.astore 6, 2) := by decide +kernel
theorem d_X4_copy_29 : decode cX4_copy 29 = .ok (.aload_n 0, 1) := by decide +kernel
theorem d_X4_copy_30 : decode cX4_copy 30 = .ok (.getfield 35, 3) := by decide +kernel
theorem d_X4_copy_33 : decode cX4_copy 33 = .ok (.iload_n 3, 1) := by decide +kernel
theorem d_X4_copy_34 : decode cX4_copy 34 = .ok (.aaload, 1) := by decide +kernel
theorem d_X4_copy_35 : decode cX4_copy 35 = .ok (.astore 7, 2) := by decide +kernel
theorem d_X4_copy_37 : decode cX4_copy 37 = .ok (.aload 6, 2) := by decide +kernel
theorem d_X4_copy_39 : decode cX4_copy 39 = .ok (.invokevirtual 218, 3) := by decide +kernel
theorem d_X4_copy_42 : decode cX4_copy 42 = .ok (.ifCond .ne 11, 3) := by decide +kernel
theorem d_X4_copy_45 : decode cX4_copy 45 = .ok (.aload 7, 2) := by decide +kernel
theorem d_X4_copy_47 : decode cX4_copy 47 = .ok (.invokevirtual 218, 3) := by decide +kernel
theorem d_X4_copy_50 : decode cX4_copy 50 = .ok (.ifCond .eq 10, 3) := by decide +kernel
theorem d_X4_copy_53 : decode cX4_copy 53 = .ok (.aload_n 0, 1) := by decide +kernel
theorem d_X4_copy_54 : decode cX4_copy 54 = .ok (.ldc 201, 2) := by decide +kernel
theorem d_X4_copy_56 : decode cX4_copy 56 = .ok (.invokevirtual 56, 3) := by decide +kernel
theorem d_X4_copy_59 : decode cX4_copy 59 = .ok (.ireturn, 1) := by decide +kernel
theorem d_X4_copy_60 : decode cX4_copy 60 = .ok (.aload 6, 2) := by decide +kernel
theorem d_X4_copy_62 : decode cX4_copy 62 = .ok (.getfield 221, 3) := by decide +kernel
theorem d_X4_copy_65 : decode cX4_copy 65 = .ok (.aload 7, 2) := by decide +kernel
theorem d_X4_copy_67 : decode cX4_copy 67 = .ok (.getfield 221, 3) := by decide +kernel
theorem d_X4_copy_70 : decode cX4_copy 70 = .ok (.if_icmp .eq 10, 3) := by decide +kernel
theorem d_X4_copy_73 : decode cX4_copy 73 = .ok (.aload_n 0, 1) := by decide +kernel
theorem d_X4_copy_74 : decode cX4_copy 74 = .ok (.ldc 205, 2) := by decide +kernel
theorem d_X4_copy_76 : decode cX4_copy 76 = .ok (.invokevirtual 56, 3) := by decide +kernel
theorem d_X4_copy_79 : decode cX4_copy 79 = .ok (.ireturn, 1) := by decide +kernel
theorem d_X4_copy_80 : decode cX4_copy 80 = .ok (.aload 6, 2) := by decide +kernel
theorem d_X4_copy_82 : decode cX4_copy 82 = .ok (.iload_n 2, 1) := by decide +kernel
theorem d_X4_copy_83 : decode cX4_copy 83 = .ok (.iload 5, 2) := by decide +kernel
theorem d_X4_copy_85 : decode cX4_copy 85 = .ok (.invokevirtual 224, 3) := by decide +kernel
theorem d_X4_copy_88 : decode cX4_copy 88 = .ok (.ifCond .eq 15, 3) := by decide +kernel
theorem d_X4_copy_91 : decode cX4_copy 91 = .ok (.aload 7, 2) := by decide +kernel
theorem d_X4_copy_93 : decode cX4_copy 93 = .ok (.iload 4, 2) := by decide +kernel
theorem d_X4_copy_95 : decode cX4_copy 95 = .ok (.iload 5, 2) := by decide +kernel
theorem d_X4_copy_97 : decode cX4_copy 97 = .ok (.invokevirtual 224, 3) := by decide +kernel
theorem d_X4_copy_100 : decode cX4_copy 100 = .ok (.ifCond .ne 10, 3) := by decide +kernel
theorem d_X4_copy_103 : decode cX4_copy 103 = .ok (.aload_n 0, 1) := by decide +kernel
theorem d_X4_copy_104 : decode cX4_copy 104 = .ok (.ldc 55, 2) := by decide +kernel
theorem d_X4_copy_106 : decode cX4_copy 106 = .ok (.invokevirtual 56, 3) := by decide +kernel
theorem d_X4_copy_109 : decode cX4_copy 109 = .ok (.ireturn, 1) := by decide +kernel
theorem d_X4_copy_110 : decode cX4_copy 110 = .ok (.aload 6, 2) := by decide +kernel
theorem d_X4_copy_112 : decode cX4_copy 112 = .ok (.getfield 227, 3) := by decide +kernel
theorem d_X4_copy_115 : decode cX4_copy 115 = .ok (.iload_n 2, 1) := by decide +kernel
theorem d_X4_copy_116 : decode cX4_copy 116 = .ok (.aload 7, 2) := by decide +kernel
theorem d_X4_copy_118 : decode cX4_copy 118 = .ok (.getfield 227, 3) := by decide +kernel
theorem d_X4_copy_121 : decode cX4_copy 121 = .ok (.iload 4, 2) := by decide +kernel
theorem d_X4_copy_123 : decode cX4_copy 123 = .ok (.iload 5, 2) := by decide +kernel
theorem d_X4_copy_125 : decode cX4_copy 125 = .ok (.invokestatic 230, 3) := by decide +kernel
theorem d_X4_copy_128 : decode cX4_copy 128 = .ok (.iload 5, 2) := by decide +kernel
theorem d_X4_copy_130 : decode cX4_copy 130 = .ok (.ireturn, 1) := by decide +kernel
noncomputable def P_X4_copy : Nat → Op := fun pc => nd 62 pc (nd 29 pc (nd 15 pc (nd 7 pc (nd 1 pc (lf 0 pc (oILd 1 1)) (nd 4 pc (lf 1 pc (oCaS 1 S_X4_isSheet 4)) (lf 4 pc (oIfEq 14 7)))) (nd 11 pc (nd 8 pc (lf 7 pc (oILd 3 8)) (lf 8 pc (oCaS 1 S_X4_isSheet 11))) (nd 14 pc (lf 11 pc (oIfEq 14 21)) (lf 14 pc (oALd 0 15))))) (nd 22 pc (nd 20 pc (nd 17 pc (lf 15 pc (oCst (-1000001) 17)) (lf 17 pc (oCaV 2 4 S_X4_tell 20))) (nd 21 pc (lf 20 pc (oIRet)) (lf 21 pc (oALd 0 22)))) (nd 26 pc (nd 25 pc (lf 22 pc (oGetR 4 5 25)) (lf 25 pc (oILd 1 26))) (nd 27 pc (lf 26 pc (oAAL 8 27)) (lf 27 pc (oASt 6 29)))))) (nd 45 pc (nd 35 pc (nd 33 pc (nd 30 pc (lf 29 pc (oALd 0 30)) (lf 30 pc (oGetR 4 5 33))) (nd 34 pc (lf 33 pc (oILd 3 34)) (lf 34 pc (oAAL 8 35)))) (nd 39 pc (nd 37 pc (lf 35 pc (oASt 7 37)) (lf 37 pc (oALd 6 39))) (nd 42 pc (lf 39 pc (oCaV 1 2 S_X2_isMissing 42)) (lf 42 pc (oIfEq 45 53))))) (nd 54 pc (nd 50 pc (nd 47 pc (lf 45 pc (oALd 7 47)) (lf 47 pc (oCaV 1 2 S_X2_isMissing 50))) (nd 53 pc (lf 50 pc (oIfEq 60 53)) (lf 53 pc (oALd 0 54)))) (nd 59 pc (nd 56 pc (lf 54 pc (oCst (-1000006) 56)) (lf 56 pc (oCaV 2 4 S_X4_tell 59))) (nd 60 pc (lf 59 pc (oIRet)) (lf 60 pc (oALd 6 62))))))) (nd 97 pc (nd 80 pc (nd 73 pc (nd 67 pc (nd 65 pc (lf 62 pc (oGetI 2 0 65)) (lf 65 pc (oALd 7 67))) (nd 70 pc (lf 67 pc (oGetI 2 0 70)) (lf 70 pc (oCpEq 80 73)))) (nd 76 pc (nd 74 pc (lf 73 pc (oALd 0 74)) (lf 74 pc (oCst (-1000003) 76))) (nd 79 pc (lf 76 pc (oCaV 2 4 S_X4_tell 79)) (lf 79 pc (oIRet))))) (nd 88 pc (nd 83 pc (nd 82 pc (lf 80 pc (oALd 6 82)) (lf 82 pc (oILd 2 83))) (nd 85 pc (lf 83 pc (oILd 5 85)) (lf 85 pc (oCaV 3 2 S_X2_hasRow 88)))) (nd 93 pc (nd 91 pc (lf 88 pc (oIfEq 103 91)) (lf 91 pc (oALd 7 93))) (nd 95 pc (lf 93 pc (oILd 4 95)) (lf 95 pc (oILd 5 97)))))) (nd 115 pc (nd 106 pc (nd 103 pc (nd 100 pc (lf 97 pc (oCaV 3 2 S_X2_hasRow 100)) (lf 100 pc (oIfEq 103 110))) (nd 104 pc (lf 103 pc (oALd 0 104)) (lf 104 pc (oCst (-1000001) 106)))) (nd 110 pc (nd 109 pc (lf 106 pc (oCaV 2 4 S_X4_tell 109)) (lf 109 pc (oIRet))) (nd 112 pc (lf 110 pc (oALd 6 112)) (lf 112 pc (oGetR 2 2 115))))) (nd 123 pc (nd 118 pc (nd 116 pc (lf 115 pc (oILd 2 116)) (lf 116 pc (oALd 7 118))) (nd 121 pc (lf 118 pc (oGetR 2 2 121)) (lf 121 pc (oILd 4 123)))) (nd 128 pc (nd 125 pc (lf 123 pc (oILd 5 125)) (lf 125 pc (oCpy 128))) (nd 130 pc (lf 128 pc (oILd 5 130)) (lf 130 pc (oIRet)))))))
theorem ok_X4_copy {l : Launch} {G : Gm} : ∀ pc, OkU (TXm l G (rmD 3) 8 cX4_copy RX4) (RXm l G (rmD 3) 8 cX4_copy RX4 (some .int)) pc (P_X4_copy pc) := fun pc => ok_nd (ok_nd (ok_nd (ok_nd (ok_nd (ok_lf (ok_ILdn d_X4_copy_0 rfl rfl)) (ok_nd (ok_lf (ok_CaS su_X4_isSheet d_X4_copy_1 q450 q451 q1 q452 ⟨by decide +kernel, by decide +kernel, by decide +kernel⟩ ⟨by decide, by decide⟩ rfl)) (ok_lf (ok_IfEq d_X4_copy_4 (by decide) rfl)))) (ok_nd (ok_nd (ok_lf (ok_ILdn d_X4_copy_7 rfl rfl)) (ok_lf (ok_CaS su_X4_isSheet d_X4_copy_8 q450 q451 q1 q452 ⟨by decide +kernel, by decide +kernel, by decide +kernel⟩ ⟨by decide, by decide⟩ rfl))) (ok_nd (ok_lf (ok_IfNe d_X4_copy_11 (by decide) rfl)) (ok_lf (ok_ALdn d_X4_copy_14 rfl rfl))))) (ok_nd (ok_nd (ok_nd (ok_lf (ok_Ldc d_X4_copy_15 q183 rfl)) (ok_lf (ok_CaV su_X4_tell (by decide) rfl d_X4_copy_17 q184 q186 z0 q1 q187 ⟨by decide +kernel, by decide +kernel, by decide +kernel⟩ ⟨by decide, by decide⟩ rfl))) (ok_nd (ok_lf (ok_IRet d_X4_copy_20)) (ok_lf (ok_ALdn d_X4_copy_21 rfl rfl)))) (ok_nd (ok_nd (ok_lf (ok_GetR (by decide) (by decide) rfl d_X4_copy_22 q159 rfl)) (ok_lf (ok_ILdn d_X4_copy_25 rfl rfl))) (ok_nd (ok_lf (ok_AAL (by decide) (by decide) d_X4_copy_26 rfl)) (ok_lf (ok_ASt d_X4_copy_27 rfl)))))) (ok_nd (ok_nd (ok_nd (ok_nd (ok_lf (ok_ALdn d_X4_copy_29 rfl rfl)) (ok_lf (ok_GetR (by decide) (by decide) rfl d_X4_copy_30 q159 rfl))) (ok_nd (ok_lf (ok_ILdn d_X4_copy_33 rfl rfl)) (ok_lf (ok_AAL (by decide) (by decide) d_X4_copy_34 rfl)))) (ok_nd (ok_nd (ok_lf (ok_ASt d_X4_copy_35 rfl)) (ok_lf (ok_ALd d_X4_copy_37 rfl))) (ok_nd (ok_lf (ok_CaVN su_X2_isMissing (by decide) rfl d_X4_copy_39 q453 q455 z36 q5 q456 ⟨by decide +kernel, by decide +kernel, by decide +kernel⟩ ⟨by decide, by decide⟩ rfl)) (ok_lf (ok_IfNe d_X4_copy_42 (by decide) rfl))))) (ok_nd (ok_nd (ok_nd (ok_lf (ok_ALd d_X4_copy_45 rfl)) (ok_lf (ok_CaVN su_X2_isMissing (by decide) rfl d_X4_copy_47 q453 q455 z36 q5 q456 ⟨by decide +kernel, by decide +kernel, by decide +kernel⟩ ⟨by decide, by decide⟩ rfl))) (ok_nd (ok_lf (ok_IfEq d_X4_copy_50 (by decide) rfl)) (ok_lf (ok_ALdn d_X4_copy_53 rfl rfl)))) (ok_nd (ok_nd (ok_lf (ok_Ldc d_X4_copy_54 q457 rfl)) (ok_lf (ok_CaV su_X4_tell (by decide) rfl d_X4_copy_56 q184 q186 z0 q1 q187 ⟨by decide +kernel, by decide +kernel, by decide +kernel⟩ ⟨by decide, by decide⟩ rfl))) (ok_nd (ok_lf (ok_IRet d_X4_copy_59)) (ok_lf (ok_ALd d_X4_copy_60 rfl))))))) (ok_nd (ok_nd (ok_nd (ok_nd (ok_nd (ok_lf (ok_GetIN (by decide) (by decide) rfl d_X4_copy_62 q142 rfl)) (ok_lf (ok_ALd d_X4_copy_65 rfl))) (ok_nd (ok_lf (ok_GetIN (by decide) (by decide) rfl d_X4_copy_67 q142 rfl)) (ok_lf (ok_CpEq d_X4_copy_70 (by decide) rfl)))) (ok_nd (ok_nd (ok_lf (ok_ALdn d_X4_copy_73 rfl rfl)) (ok_lf (ok_Ldc d_X4_copy_74 q629 rfl))) (ok_nd (ok_lf (ok_CaV su_X4_tell (by decide) rfl d_X4_copy_76 q184 q186 z0 q1 q187 ⟨by decide +kernel, by decide +kernel, by decide +kernel⟩ ⟨by decide, by decide⟩ rfl)) (ok_lf (ok_IRet d_X4_copy_79))))) (ok_nd (ok_nd (ok_nd (ok_lf (ok_ALd d_X4_copy_80 rfl)) (ok_lf (ok_ILdn d_X4_copy_82 rfl rfl))) (ok_nd (ok_lf (ok_ILd d_X4_copy_83 rfl)) (ok_lf (ok_CaVN su_X2_hasRow (by decide) rfl d_X4_copy_85 q651 q653 z53 q5 q654 ⟨by decide +kernel, by decide +kernel, by decide +kernel⟩ ⟨by decide, by decide⟩ rfl)))) (ok_nd (ok_nd (ok_lf (ok_IfEq d_X4_copy_88 (by decide) rfl)) (ok_lf (ok_ALd d_X4_copy_91 rfl))) (ok_nd (ok_lf (ok_ILd d_X4_copy_93 rfl)) (ok_lf (ok_ILd d_X4_copy_95 rfl)))))) (ok_nd (ok_nd (ok_nd (ok_nd (ok_lf (ok_CaVN su_X2_hasRow (by decide) rfl d_X4_copy_97 q651 q653 z53 q5 q654 ⟨by decide +kernel, by decide +kernel, by decide +kernel⟩ ⟨by decide, by decide⟩ rfl)) (ok_lf (ok_IfNe d_X4_copy_100 (by decide) rfl))) (ok_nd (ok_lf (ok_ALdn d_X4_copy_103 rfl rfl)) (ok_lf (ok_Ldc d_X4_copy_104 q183 rfl)))) (ok_nd (ok_nd (ok_lf (ok_CaV su_X4_tell (by decide) rfl d_X4_copy_106 q184 q186 z0 q1 q187 ⟨by decide +kernel, by decide +kernel, by decide +kernel⟩ ⟨by decide, by decide⟩ rfl)) (ok_lf (ok_IRet d_X4_copy_109))) (ok_nd (ok_lf (ok_ALd d_X4_copy_110 rfl)) (ok_lf (ok_GetRN (by decide) (by decide) rfl d_X4_copy_112 q146 rfl))))) (ok_nd (ok_nd (ok_nd (ok_lf (ok_ILdn d_X4_copy_115 rfl rfl)) (ok_lf (ok_ALd d_X4_copy_116 rfl))) (ok_nd (ok_lf (ok_GetRN (by decide) (by decide) rfl d_X4_copy_118 q146 rfl)) (ok_lf (ok_ILd d_X4_copy_121 rfl)))) (ok_nd (ok_nd (ok_lf (ok_ILd d_X4_copy_123 rfl)) (ok_lf (ok_Cpy d_X4_copy_125 q655 q371 q370 q8 ⟨by decide, by decide⟩ rfl))) (ok_nd (ok_lf (ok_ILd d_X4_copy_128 rfl)) (ok_lf (ok_IRet d_X4_copy_130)))))))
noncomputable def S_X4_copy : Sem := lockS (inl P_X4_copy 65 8) 0
theorem su_X4_copy {l : Launch} {G : Gm} : SemU l G yX4_copy (wsOf yX4_copy cX4_copy 8 (some .int)) 3 S_X4_copy := sem_lock (sem_inl 65 (by decide +kernel) rfl ok_X4_copy)
theorem d_X4_load_0 : decode cX4_load 0 = .ok (.aload_n 0, 1) := by decide +kernel
theorem d_X4_load_1 : decode cX4_load 1 = .ok (.iload_n 1, 1) := by decide +kernel
theorem d_X4_load_2 : decode cX4_load 2 = .ok (.invokevirtual 214, 3) := by decide +kernel
theorem d_X4_load_5 : decode cX4_load 5 = .ok (.istore_n 2, 1) := by decide +kernel
theorem d_X4_load_6 : decode cX4_load 6 = .ok (.iload_n 2, 1) := by decide +kernel
theorem d_X4_load_7 : decode cX4_load 7 = .ok (.ifCond .eq 9, 3) := by decide +kernel
theorem d_X4_load_10 : decode cX4_load 10 = .ok (.aload_n 0, 1) := by decide +kernel
theorem d_X4_load_11 : decode cX4_load 11 = .ok (.iload_n 2, 1) := by decide +kernel
theorem d_X4_load_12 : decode cX4_load 12 = .ok (.invokevirtual 56, 3) := by decide +kernel
theorem d_X4_load_15 : decode cX4_load 15 = .ok (.ireturn, 1) := by decide +kernel
theorem d_X4_load_16 : decode cX4_load 16 = .ok (.aload_n 0, 1) := by decide +kernel
theorem d_X4_load_17 : decode cX4_load 17 = .ok (.getfield 35, 3) := by decide +kernel
theorem d_X4_load_20 : decode cX4_load 20 = .ok (.iload_n 1, 1) := by decide +kernel
theorem d_X4_load_21 : decode cX4_load 21 = .ok (.aaload, 1) := by decide +kernel
theorem d_X4_load_22 : decode cX4_load 22 = .ok (.astore_n 3, 1) := by decide +kernel
theorem d_X4_load_23 : decode cX4_load 23 = .ok (.iconst 0, 1) := by decide +kernel
theorem d_X4_load_24 : decode cX4_load 24 = .ok (.istore 4, 2) := by decide +kernel
theorem d_X4_load_26 : decode cX4_load 26 = .ok (.iload 4, 2) := by decide +kernel
theorem d_X4_load_28 : decode cX4_load 28 = .ok (.aload_n 3, 1) := by decide +kernel
theorem d_X4_load_29 : decode cX4_load 29 = .ok (.getfield 213, 3) := by decide +kernel
theorem d_X4_load_32 : decode cX4_load 32 = .ok (.if_icmp .ge 57, 3) := by decide +kernel
theorem d_X4_load_35 : decode cX4_load 35 = .ok (.aload_n 0, 1) := by decide +kernel
theorem d_X4_load_36 : decode cX4_load 36 = .ok (.getfield 12, 3) := by decide +kernel
theorem d_X4_load_39 : decode cX4_load 39 = .ok (.iload 4, 2) := by decide +kernel
theorem d_X4_load_41 : decode cX4_load 41 = .ok (.invokevirtual 82, 3) := by decide +kernel
theorem d_X4_load_44 : decode cX4_load 44 = .ok (.ifCond .eq 45, 3) := by decide +kernel
theorem d_X4_load_47 : decode cX4_load 47 = .ok (.aload_n 3, 1) := by decide +kernel
theorem d_X4_load_48 : decode cX4_load 48 = .ok (.getfield 227, 3) := by decide +kernel
theorem d_X4_load_51 : decode cX4_load 51 = .ok (.iload 4, 2) := by decide +kernel
theorem d_X4_load_53 : decode cX4_load 53 = .ok (.iaload, 1) := by decide +kernel
theorem d_X4_load_54 : decode cX4_load 54 = .ok (.iconst 0, 1) := by decide +kernel
theorem d_X4_load_55 : decode cX4_load 55 = .ok (.bipush 99, 2) := by decide +kernel
theorem d_X4_load_57 : decode cX4_load 57 = .ok (.invokestatic 44, 3) := by decide +kernel
theorem d_X4_load_60 : decode cX4_load 60 = .ok (.ifCond .eq 29, 3) := by decide +kernel
theorem d_X4_load_63 : decode cX4_load 63 = .ok (.aload_n 0, 1) := by decide +kernel
theorem d_X4_load_64 : decode cX4_load 64 = .ok (.getfield 12, 3) := by decide +kernel
theorem d_X4_load_67 : decode cX4_load 67 = .ok (.getfield 87, 3) := by decide +kernel
theorem d_X4_load_70 : decode cX4_load 70 = .ok (.iload 4, 2) := by decide +kernel
theorem d_X4_load_72 : decode cX4_load 72 = .ok (.aaload, 1) := by decide +kernel
theorem d_X4_load_73 : decode cX4_load 73 = .ok (.aload_n 3, 1) := by decide +kernel
theorem d_X4_load_74 : decode cX4_load 74 = .ok (.getfield 227, 3) := by decide +kernel
theorem d_X4_load_77 : decode cX4_load 77 = .ok (.iload 4, 2) := by decide +kernel
theorem d_X4_load_79 : decode cX4_load 79 = .ok (.iaload, 1) := by decide +kernel
theorem d_X4_load_80 : decode cX4_load 80 = .ok (.putfield 159, 3) := by decide +kernel
theorem d_X4_load_83 : decode cX4_load 83 = .ok (.iinc 4 1, 3) := by decide +kernel
theorem d_X4_load_86 : decode cX4_load 86 = .ok (.goto (-60), 3) := by decide +kernel
theorem d_X4_load_89 : decode cX4_load 89 = .ok (.iload 4, 2) := by decide +kernel
theorem d_X4_load_91 : decode cX4_load 91 = .ok (.ireturn, 1) := by decide +kernel
noncomputable def P_X4_load : Nat → Op := fun pc => nd 41 pc (nd 20 pc (nd 10 pc (nd 5 pc (nd 1 pc (lf 0 pc (oALd 0 1)) (nd 2 pc (lf 1 pc (oILd 1 2)) (lf 2 pc (oCaV 2 4 S_X4_findingOfSheet 5)))) (nd 6 pc (lf 5 pc (oISt 2 6)) (nd 7 pc (lf 6 pc (oILd 2 7)) (lf 7 pc (oIfEq 16 10))))) (nd 15 pc (nd 11 pc (lf 10 pc (oALd 0 11)) (nd 12 pc (lf 11 pc (oILd 2 12)) (lf 12 pc (oCaV 2 4 S_X4_tell 15)))) (nd 16 pc (lf 15 pc (oIRet)) (nd 17 pc (lf 16 pc (oALd 0 17)) (lf 17 pc (oGetR 4 5 20)))))) (nd 28 pc (nd 23 pc (nd 21 pc (lf 20 pc (oILd 1 21)) (nd 22 pc (lf 21 pc (oAAL 8 22)) (lf 22 pc (oASt 3 23)))) (nd 24 pc (lf 23 pc (oCst 0 24)) (nd 26 pc (lf 24 pc (oISt 4 26)) (lf 26 pc (lockO (oILd 4 28) 0))))) (nd 35 pc (nd 29 pc (lf 28 pc (oALd 3 29)) (nd 32 pc (lf 29 pc (oGetI 2 1 32)) (lf 32 pc (oCpLt 35 89)))) (nd 36 pc (lf 35 pc (oALd 0 36)) (nd 39 pc (lf 36 pc (oGetR 4 0 39)) (lf 39 pc (oILd 4 41))))))) (nd 67 pc (nd 54 pc (nd 48 pc (nd 44 pc (lf 41 pc (oCaV 2 0 S_X0_has 44)) (nd 47 pc (lf 44 pc (oIfEq 89 47)) (lf 47 pc (oALd 3 48)))) (nd 51 pc (lf 48 pc (oGetR 2 2 51)) (nd 53 pc (lf 51 pc (oILd 4 53)) (lf 53 pc (oIAL 54))))) (nd 60 pc (nd 55 pc (lf 54 pc (oCst 0 55)) (nd 57 pc (lf 55 pc (oCst 99 57)) (lf 57 pc (oCaS 3 S_X4_isWithin 60)))) (nd 63 pc (lf 60 pc (oIfEq 89 63)) (nd 64 pc (lf 63 pc (oALd 0 64)) (lf 64 pc (oGetR 4 0 67)))))) (nd 79 pc (nd 73 pc (nd 70 pc (lf 67 pc (oGetR 0 8 70)) (nd 72 pc (lf 70 pc (oILd 4 72)) (lf 72 pc (oAAL 7 73)))) (nd 74 pc (lf 73 pc (oALd 3 74)) (nd 77 pc (lf 74 pc (oGetR 2 2 77)) (lf 77 pc (oILd 4 79))))) (nd 86 pc (nd 80 pc (lf 79 pc (oIAL 80)) (nd 83 pc (lf 80 pc (oPutI 1 1 83)) (lf 83 pc (oInc 4 1 86)))) (nd 89 pc (lf 86 pc (oGo 26)) (nd 91 pc (lf 89 pc (oILd 4 91)) (lf 91 pc (oIRet)))))))
theorem ok_X4_load {l : Launch} {G : Gm} : ∀ pc, OkU (TXm l G (rmD 4) 5 cX4_load RX4) (RXm l G (rmD 4) 5 cX4_load RX4 (some .int)) pc (P_X4_load pc) := fun pc => ok_nd (ok_nd (ok_nd (ok_nd (ok_nd (ok_lf (ok_ALdn d_X4_load_0 rfl rfl)) (ok_nd (ok_lf (ok_ILdn d_X4_load_1 rfl rfl)) (ok_lf (ok_CaV su_X4_findingOfSheet (by decide) rfl d_X4_load_2 q446 q448 z35 q1 q449 ⟨by decide +kernel, by decide +kernel, by decide +kernel⟩ ⟨by decide, by decide⟩ rfl)))) (ok_nd (ok_lf (ok_IStn d_X4_load_5 rfl rfl)) (ok_nd (ok_lf (ok_ILdn d_X4_load_6 rfl rfl)) (ok_lf (ok_IfEq d_X4_load_7 (by decide) rfl))))) (ok_nd (ok_nd (ok_lf (ok_ALdn d_X4_load_10 rfl rfl)) (ok_nd (ok_lf (ok_ILdn d_X4_load_11 rfl rfl)) (ok_lf (ok_CaV su_X4_tell (by decide) rfl d_X4_load_12 q184 q186 z0 q1 q187 ⟨by decide +kernel, by decide +kernel, by decide +kernel⟩ ⟨by decide, by decide⟩ rfl)))) (ok_nd (ok_lf (ok_IRet d_X4_load_15)) (ok_nd (ok_lf (ok_ALdn d_X4_load_16 rfl rfl)) (ok_lf (ok_GetR (by decide) (by decide) rfl d_X4_load_17 q159 rfl)))))) (ok_nd (ok_nd (ok_nd (ok_lf (ok_ILdn d_X4_load_20 rfl rfl)) (ok_nd (ok_lf (ok_AAL (by decide) (by decide) d_X4_load_21 rfl)) (ok_lf (ok_AStn d_X4_load_22 rfl rfl)))) (ok_nd (ok_lf (ok_ICst d_X4_load_23 (by decide) rfl)) (ok_nd (ok_lf (ok_ISt d_X4_load_24 rfl)) (ok_lf (ok_lk (ok_ILd d_X4_load_26 rfl)))))) (ok_nd (ok_nd (ok_lf (ok_ALdn d_X4_load_28 rfl rfl)) (ok_nd (ok_lf (ok_GetIN (by decide) (by decide) rfl d_X4_load_29 q144 rfl)) (ok_lf (ok_CpGe d_X4_load_32 (by decide) rfl)))) (ok_nd (ok_lf (ok_ALdn d_X4_load_35 rfl rfl)) (ok_nd (ok_lf (ok_GetR (by decide) (by decide) rfl d_X4_load_36 q154 rfl)) (ok_lf (ok_ILd d_X4_load_39 rfl))))))) (ok_nd (ok_nd (ok_nd (ok_nd (ok_lf (ok_CaVN su_X0_has (by decide) rfl d_X4_load_41 q227 q229 z4 q2 q230 ⟨by decide +kernel, by decide +kernel, by decide +kernel⟩ ⟨by decide, by decide⟩ rfl)) (ok_nd (ok_lf (ok_IfEq d_X4_load_44 (by decide) rfl)) (ok_lf (ok_ALdn d_X4_load_47 rfl rfl)))) (ok_nd (ok_lf (ok_GetRN (by decide) (by decide) rfl d_X4_load_48 q146 rfl)) (ok_nd (ok_lf (ok_ILd d_X4_load_51 rfl)) (ok_lf (ok_IAL d_X4_load_53 rfl))))) (ok_nd (ok_nd (ok_lf (ok_ICst d_X4_load_54 (by decide) rfl)) (ok_nd (ok_lf (ok_BCst d_X4_load_55 (by decide) rfl)) (ok_lf (ok_CaS su_X4_isWithin d_X4_load_57 q180 q181 q1 q182 ⟨by decide +kernel, by decide +kernel, by decide +kernel⟩ ⟨by decide, by decide⟩ rfl)))) (ok_nd (ok_lf (ok_IfEq d_X4_load_60 (by decide) rfl)) (ok_nd (ok_lf (ok_ALdn d_X4_load_63 rfl rfl)) (ok_lf (ok_GetR (by decide) (by decide) rfl d_X4_load_64 q154 rfl)))))) (ok_nd (ok_nd (ok_nd (ok_lf (ok_GetRN (by decide) (by decide) rfl d_X4_load_67 q88 rfl)) (ok_nd (ok_lf (ok_ILd d_X4_load_70 rfl)) (ok_lf (ok_AAL (by decide) (by decide) d_X4_load_72 rfl)))) (ok_nd (ok_lf (ok_ALdn d_X4_load_73 rfl rfl)) (ok_nd (ok_lf (ok_GetRN (by decide) (by decide) rfl d_X4_load_74 q146 rfl)) (ok_lf (ok_ILd d_X4_load_77 rfl))))) (ok_nd (ok_nd (ok_lf (ok_IAL d_X4_load_79 rfl)) (ok_nd (ok_lf (ok_PutIN (by decide) (by decide) rfl rfl (by decide +kernel) d_X4_load_80 q39 rfl)) (ok_lf (ok_Inc d_X4_load_83 (by decide) rfl)))) (ok_nd (ok_lf (ok_Go d_X4_load_86 (by decide))) (ok_nd (ok_lf (ok_ILd d_X4_load_89 rfl)) (ok_lf (ok_IRet d_X4_load_91)))))))
noncomputable def S_X4_load : Sem := lockS (inl P_X4_load 30000 5) 0
theorem su_X4_load {l : Launch} {G : Gm} : SemU l G yX4_load (wsOf yX4_load cX4_load 5 (some .int)) 4 S_X4_load := sem_lock (sem_inl 30000 (by decide +kernel) rfl ok_X4_load)
theorem d_X4_judge_0 : decode cX4_judge 0 = .ok (.aload_n 0, 1) := by decide +kernel
theorem d_X4_judge_1 : decode cX4_judge 1 = .ok (.iload_n 1, 1) := by decide +kernel
theorem d_X4_judge_2 : decode cX4_judge 2 = .ok (.invokevirtual 214, 3) := by decide +kernel
theorem d_X4_judge_5 : decode cX4_judge 5 = .ok (.istore_n 2, 1) := by decide +kernel
theorem d_X4_judge_6 : decode cX4_judge 6 = .ok (.iload_n 2, 1) := by decide +kernel
theorem d_X4_judge_7 : decode cX4_judge 7 = .ok (.ifCond .eq 9, 3) := by decide +kernel
theorem d_X4_judge_10 : decode cX4_judge 10 = .ok (.aload_n 0, 1) := by decide +kernel
theorem d_X4_judge_11 : decode cX4_judge 11 = .ok (.iload_n 2, 1) := by decide +kernel
theorem d_X4_judge_12 : decode cX4_judge 12 = .ok (.invokevirtual 56, 3) := by decide +kernel
theorem d_X4_judge_15 : decode cX4_judge 15 = .ok (.ireturn, 1) := by decide +kernel
theorem d_X4_judge_16 : decode cX4_judge 16 = .ok (.aload_n 0, 1) := by decide +kernel
theorem d_X4_judge_17 : decode cX4_judge 17 = .ok (.getfield 35, 3) := by decide +kernel
theorem d_X4_judge_20 : decode cX4_judge 20 = .ok (.iload_n 1, 1) := by decide +kernel
theorem d_X4_judge_21 : decode cX4_judge 21 = .ok (.aaload, 1) := by decide +kernel
theorem d_X4_judge_22 : decode cX4_judge 22 = .ok (.astore_n 3, 1) := by decide +kernel
theorem d_X4_judge_23 : decode cX4_judge 23 = .ok (.iconst 0, 1) := by decide +kernel
theorem d_X4_judge_24 : decode cX4_judge 24 = .ok (.istore 4, 2) := by decide +kernel
theorem d_X4_judge_26 : decode cX4_judge 26 = .ok (.iload 4, 2) := by decide +kernel
theorem d_X4_judge_28 : decode cX4_judge 28 = .ok (.aload_n 3, 1) := by decide +kernel
theorem d_X4_judge_29 : decode cX4_judge 29 = .ok (.getfield 213, 3) := by decide +kernel
theorem d_X4_judge_32 : decode cX4_judge 32 = .ok (.if_icmp .ge 49, 3) := by decide +kernel
theorem d_X4_judge_35 : decode cX4_judge 35 = .ok (.aload_n 0, 1) := by decide +kernel
theorem d_X4_judge_36 : decode cX4_judge 36 = .ok (.getfield 12, 3) := by decide +kernel
theorem d_X4_judge_39 : decode cX4_judge 39 = .ok (.iload 4, 2) := by decide +kernel
theorem d_X4_judge_41 : decode cX4_judge 41 = .ok (.invokevirtual 82, 3) := by decide +kernel
theorem d_X4_judge_44 : decode cX4_judge 44 = .ok (.ifCond .eq 26, 3) := by decide +kernel
theorem d_X4_judge_47 : decode cX4_judge 47 = .ok (.aload_n 0, 1) := by decide +kernel
theorem d_X4_judge_48 : decode cX4_judge 48 = .ok (.getfield 12, 3) := by decide +kernel
theorem d_X4_judge_51 : decode cX4_judge 51 = .ok (.getfield 87, 3) := by decide +kernel
theorem d_X4_judge_54 : decode cX4_judge 54 = .ok (.iload 4, 2) := by decide +kernel
theorem d_X4_judge_56 : decode cX4_judge 56 = .ok (.aaload, 1) := by decide +kernel
theorem d_X4_judge_57 : decode cX4_judge 57 = .ok (.getfield 236, 3) := by decide +kernel
theorem d_X4_judge_60 : decode cX4_judge 60 = .ok (.aload_n 3, 1) := by decide +kernel
theorem d_X4_judge_61 : decode cX4_judge 61 = .ok (.getfield 227, 3) := by decide +kernel
theorem d_X4_judge_64 : decode cX4_judge 64 = .ok (.iload 4, 2) := by decide +kernel
theorem d_X4_judge_66 : decode cX4_judge 66 = .ok (.iaload, 1) := by decide +kernel
theorem d_X4_judge_67 : decode cX4_judge 67 = .ok (.if_icmp .eq 8, 3) := by decide +kernel
theorem d_X4_judge_70 : decode cX4_judge 70 = .ok (.iconst 1, 1) := by decide +kernel
theorem d_X4_judge_71 : decode cX4_judge 71 = .ok (.iload 4, 2) := by decide +kernel
theorem d_X4_judge_73 : decode cX4_judge 73 = .ok (.iadd, 1) := by decide +kernel
theorem d_X4_judge_74 : decode cX4_judge 74 = .ok (.ireturn, 1) := by decide +kernel
theorem d_X4_judge_75 : decode cX4_judge 75 = .ok (.iinc 4 1, 3) := by decide +kernel
theorem d_X4_judge_78 : decode cX4_judge 78 = .ok (.goto (-52), 3) := by decide +kernel
theorem d_X4_judge_81 : decode cX4_judge 81 = .ok (.iconst 0, 1) := by decide +kernel
theorem d_X4_judge_82 : decode cX4_judge 82 = .ok (.ireturn, 1) := by decide +kernel
noncomputable def P_X4_judge : Nat → Op := fun pc => nd 36 pc (nd 17 pc (nd 7 pc (nd 2 pc (nd 1 pc (lf 0 pc (oALd 0 1)) (lf 1 pc (oILd 1 2))) (nd 5 pc (lf 2 pc (oCaV 2 4 S_X4_findingOfSheet 5)) (nd 6 pc (lf 5 pc (oISt 2 6)) (lf 6 pc (oILd 2 7))))) (nd 12 pc (nd 10 pc (lf 7 pc (oIfEq 16 10)) (nd 11 pc (lf 10 pc (oALd 0 11)) (lf 11 pc (oILd 2 12)))) (nd 15 pc (lf 12 pc (oCaV 2 4 S_X4_tell 15)) (nd 16 pc (lf 15 pc (oIRet)) (lf 16 pc (oALd 0 17)))))) (nd 24 pc (nd 21 pc (nd 20 pc (lf 17 pc (oGetR 4 5 20)) (lf 20 pc (oILd 1 21))) (nd 22 pc (lf 21 pc (oAAL 8 22)) (nd 23 pc (lf 22 pc (oASt 3 23)) (lf 23 pc (oCst 0 24))))) (nd 29 pc (nd 26 pc (lf 24 pc (oISt 4 26)) (nd 28 pc (lf 26 pc (lockO (oILd 4 28) 0)) (lf 28 pc (oALd 3 29)))) (nd 32 pc (lf 29 pc (oGetI 2 1 32)) (nd 35 pc (lf 32 pc (oCpLt 35 81)) (lf 35 pc (oALd 0 36))))))) (nd 61 pc (nd 48 pc (nd 41 pc (nd 39 pc (lf 36 pc (oGetR 4 0 39)) (lf 39 pc (oILd 4 41))) (nd 44 pc (lf 41 pc (oCaV 2 0 S_X0_has 44)) (nd 47 pc (lf 44 pc (oIfEq 70 47)) (lf 47 pc (oALd 0 48))))) (nd 56 pc (nd 51 pc (lf 48 pc (oGetR 4 0 51)) (nd 54 pc (lf 51 pc (oGetR 0 8 54)) (lf 54 pc (oILd 4 56)))) (nd 57 pc (lf 56 pc (oAAL 7 57)) (nd 60 pc (lf 57 pc (oGetI 1 3 60)) (lf 60 pc (oALd 3 61)))))) (nd 73 pc (nd 67 pc (nd 64 pc (lf 61 pc (oGetR 2 2 64)) (nd 66 pc (lf 64 pc (oILd 4 66)) (lf 66 pc (oIAL 67)))) (nd 70 pc (lf 67 pc (oCpEq 75 70)) (nd 71 pc (lf 70 pc (oCst 1 71)) (lf 71 pc (oILd 4 73))))) (nd 78 pc (nd 74 pc (lf 73 pc (oBin (fun x y => x + y) 74)) (nd 75 pc (lf 74 pc (oIRet)) (lf 75 pc (oInc 4 1 78)))) (nd 81 pc (lf 78 pc (oGo 26)) (nd 82 pc (lf 81 pc (oCst 0 82)) (lf 82 pc (oIRet)))))))
theorem ok_X4_judge {l : Launch} {G : Gm} : ∀ pc, OkU (TXm l G (rmD 4) 5 cX4_judge RX4) (RXm l G (rmD 4) 5 cX4_judge RX4 (some .int)) pc (P_X4_judge pc) := fun pc => ok_nd (ok_nd (ok_nd (ok_nd (ok_nd (ok_lf (ok_ALdn d_X4_judge_0 rfl rfl)) (ok_lf (ok_ILdn d_X4_judge_1 rfl rfl))) (ok_nd (ok_lf (ok_CaV su_X4_findingOfSheet (by decide) rfl d_X4_judge_2 q446 q448 z35 q1 q449 ⟨by decide +kernel, by decide +kernel, by decide +kernel⟩ ⟨by decide, by decide⟩ rfl)) (ok_nd (ok_lf (ok_IStn d_X4_judge_5 rfl rfl)) (ok_lf (ok_ILdn d_X4_judge_6 rfl rfl))))) (ok_nd (ok_nd (ok_lf (ok_IfEq d_X4_judge_7 (by decide) rfl)) (ok_nd (ok_lf (ok_ALdn d_X4_judge_10 rfl rfl)) (ok_lf (ok_ILdn d_X4_judge_11 rfl rfl)))) (ok_nd (ok_lf (ok_CaV su_X4_tell (by decide) rfl d_X4_judge_12 q184 q186 z0 q1 q187 ⟨by decide +kernel, by decide +kernel, by decide +kernel⟩ ⟨by decide, by decide⟩ rfl)) (ok_nd (ok_lf (ok_IRet d_X4_judge_15)) (ok_lf (ok_ALdn d_X4_judge_16 rfl rfl)))))) (ok_nd (ok_nd (ok_nd (ok_lf (ok_GetR (by decide) (by decide) rfl d_X4_judge_17 q159 rfl)) (ok_lf (ok_ILdn d_X4_judge_20 rfl rfl))) (ok_nd (ok_lf (ok_AAL (by decide) (by decide) d_X4_judge_21 rfl)) (ok_nd (ok_lf (ok_AStn d_X4_judge_22 rfl rfl)) (ok_lf (ok_ICst d_X4_judge_23 (by decide) rfl))))) (ok_nd (ok_nd (ok_lf (ok_ISt d_X4_judge_24 rfl)) (ok_nd (ok_lf (ok_lk (ok_ILd d_X4_judge_26 rfl))) (ok_lf (ok_ALdn d_X4_judge_28 rfl rfl)))) (ok_nd (ok_lf (ok_GetIN (by decide) (by decide) rfl d_X4_judge_29 q144 rfl)) (ok_nd (ok_lf (ok_CpGe d_X4_judge_32 (by decide) rfl)) (ok_lf (ok_ALdn d_X4_judge_35 rfl rfl))))))) (ok_nd (ok_nd (ok_nd (ok_nd (ok_lf (ok_GetR (by decide) (by decide) rfl d_X4_judge_36 q154 rfl)) (ok_lf (ok_ILd d_X4_judge_39 rfl))) (ok_nd (ok_lf (ok_CaVN su_X0_has (by decide) rfl d_X4_judge_41 q227 q229 z4 q2 q230 ⟨by decide +kernel, by decide +kernel, by decide +kernel⟩ ⟨by decide, by decide⟩ rfl)) (ok_nd (ok_lf (ok_IfEq d_X4_judge_44 (by decide) rfl)) (ok_lf (ok_ALdn d_X4_judge_47 rfl rfl))))) (ok_nd (ok_nd (ok_lf (ok_GetR (by decide) (by decide) rfl d_X4_judge_48 q154 rfl)) (ok_nd (ok_lf (ok_GetRN (by decide) (by decide) rfl d_X4_judge_51 q88 rfl)) (ok_lf (ok_ILd d_X4_judge_54 rfl)))) (ok_nd (ok_lf (ok_AAL (by decide) (by decide) d_X4_judge_56 rfl)) (ok_nd (ok_lf (ok_GetIN (by decide) (by decide) rfl d_X4_judge_57 q46 rfl)) (ok_lf (ok_ALdn d_X4_judge_60 rfl rfl)))))) (ok_nd (ok_nd (ok_nd (ok_lf (ok_GetRN (by decide) (by decide) rfl d_X4_judge_61 q146 rfl)) (ok_nd (ok_lf (ok_ILd d_X4_judge_64 rfl)) (ok_lf (ok_IAL d_X4_judge_66 rfl)))) (ok_nd (ok_lf (ok_CpEq d_X4_judge_67 (by decide) rfl)) (ok_nd (ok_lf (ok_ICst d_X4_judge_70 (by decide) rfl)) (ok_lf (ok_ILd d_X4_judge_71 rfl))))) (ok_nd (ok_nd (ok_lf (ok_iadd d_X4_judge_73 rfl)) (ok_nd (ok_lf (ok_IRet d_X4_judge_74)) (ok_lf (ok_Inc d_X4_judge_75 (by decide) rfl)))) (ok_nd (ok_lf (ok_Go d_X4_judge_78 (by decide))) (ok_nd (ok_lf (ok_ICst d_X4_judge_81 (by decide) rfl)) (ok_lf (ok_IRet d_X4_judge_82)))))))
noncomputable def S_X4_judge : Sem := lockS (inl P_X4_judge 30000 5) 0
theorem su_X4_judge {l : Launch} {G : Gm} : SemU l G yX4_judge (wsOf yX4_judge cX4_judge 5 (some .int)) 4 S_X4_judge := sem_lock (sem_inl 30000 (by decide +kernel) rfl ok_X4_judge)
theorem d_X4_image_0 : decode cX4_image 0 = .ok (.aload_n 0, 1) := by decide +kernel
theorem d_X4_image_1 : decode cX4_image 1 = .ok (.getfield 19, 3) := by decide +kernel
theorem d_X4_image_4 : decode cX4_image 4 = .ok (.aload_n 0, 1) := by decide +kernel
theorem d_X4_image_5 : decode cX4_image 5 = .ok (.getfield 12, 3) := by decide +kernel
theorem d_X4_image_8 : decode cX4_image 8 = .ok (.invokevirtual 140, 3) := by decide +kernel
theorem d_X4_image_11 : decode cX4_image 11 = .ok (.aload_n 0, 1) := by decide +kernel
theorem d_X4_image_12 : decode cX4_image 12 = .ok (.iconst 1, 1) := by decide +kernel
theorem d_X4_image_13 : decode cX4_image 13 = .ok (.putfield 22, 3) := by decide +kernel
theorem d_X4_image_16 : decode cX4_image 16 = .ok (.iconst 1, 1) := by decide +kernel
theorem d_X4_image_17 : decode cX4_image 17 = .ok (.ireturn, 1) := by decide +kernel
noncomputable def P_X4_image : Nat → Op := fun pc => nd 11 pc (nd 4 pc (nd 1 pc (lf 0 pc (oALd 0 1)) (lf 1 pc (oGetR 4 2 4))) (nd 5 pc (lf 4 pc (oALd 0 5)) (nd 8 pc (lf 5 pc (oGetR 4 0 8)) (lf 8 pc (oCaV 2 0 S_X0_become 11))))) (nd 13 pc (nd 12 pc (lf 11 pc (oALd 0 12)) (lf 12 pc (oCst 1 13))) (nd 16 pc (lf 13 pc (oPutZ 4 3 16)) (nd 17 pc (lf 16 pc (oCst 1 17)) (lf 17 pc (oIRet)))))
theorem ok_X4_image {l : Launch} {G : Gm} : ∀ pc, OkU (TXm l G (rmD 3) 1 cX4_image RX4) (RXm l G (rmD 3) 1 cX4_image RX4 (some .int)) pc (P_X4_image pc) := fun pc => ok_nd (ok_nd (ok_nd (ok_lf (ok_ALdn d_X4_image_0 rfl rfl)) (ok_lf (ok_GetR (by decide) (by decide) rfl d_X4_image_1 q156 rfl))) (ok_nd (ok_lf (ok_ALdn d_X4_image_4 rfl rfl)) (ok_nd (ok_lf (ok_GetR (by decide) (by decide) rfl d_X4_image_5 q154 rfl)) (ok_lf (ok_CaVN su_X0_become (by decide) rfl d_X4_image_8 q365 q367 z28 q2 q368 ⟨by decide +kernel, by decide +kernel, by decide +kernel⟩ ⟨by decide, by decide⟩ rfl))))) (ok_nd (ok_nd (ok_lf (ok_ALdn d_X4_image_11 rfl rfl)) (ok_lf (ok_ICst d_X4_image_12 (by decide) rfl))) (ok_nd (ok_lf (ok_PutZ (by decide) (by decide) rfl rfl (by decide +kernel) d_X4_image_13 q157 rfl)) (ok_nd (ok_lf (ok_ICst d_X4_image_16 (by decide) rfl)) (ok_lf (ok_IRet d_X4_image_17)))))
noncomputable def S_X4_image : Sem := lockS (inl P_X4_image 12 1) 0
theorem su_X4_image {l : Launch} {G : Gm} : SemU l G yX4_image (wsOf yX4_image cX4_image 1 (some .int)) 3 S_X4_image := sem_lock (sem_inl 12 (by decide +kernel) rfl ok_X4_image)
theorem d_X4_undo_0 : decode cX4_undo 0 = .ok (.aload_n 0, 1) := by decide +kernel
theorem d_X4_undo_1 : decode cX4_undo 1 = .ok (.getfield 22, 3) := by decide +kernel
theorem d_X4_undo_4 : decode cX4_undo 4 = .ok (.ifCond .ne 10, 3) := by decide +kernel
theorem d_X4_undo_7 : decode cX4_undo 7 = .ok (.aload_n 0, 1) := by decide +kernel
theorem d_X4_undo_8 : decode cX4_undo 8 = .ok (.ldc 115, 2) := by decide +kernel
theorem d_X4_undo_10 : decode cX4_undo 10 = .ok (.invokevirtual 56, 3) := by decide +kernel
theorem d_X4_undo_13 : decode cX4_undo 13 = .ok (.ireturn, 1) := by decide +kernel
theorem d_X4_undo_14 : decode cX4_undo 14 = .ok (.aload_n 0, 1) := by decide +kernel
theorem d_X4_undo_15 : decode cX4_undo 15 = .ok (.getfield 12, 3) := by decide +kernel
theorem d_X4_undo_18 : decode cX4_undo 18 = .ok (.aload_n 0, 1) := by decide +kernel
theorem d_X4_undo_19 : decode cX4_undo 19 = .ok (.getfield 19, 3) := by decide +kernel
theorem d_X4_undo_22 : decode cX4_undo 22 = .ok (.invokevirtual 140, 3) := by decide +kernel
theorem d_X4_undo_25 : decode cX4_undo 25 = .ok (.aload_n 0, 1) := by decide +kernel
theorem d_X4_undo_26 : decode cX4_undo 26 = .ok (.getfield 12, 3) := by decide +kernel
theorem d_X4_undo_29 : decode cX4_undo 29 = .ok (.getfield 91, 3) := by decide +kernel
theorem d_X4_undo_32 : decode cX4_undo 32 = .ok (.ireturn, 1) := by decide +kernel
noncomputable def P_X4_undo : Nat → Op := fun pc => nd 15 pc (nd 8 pc (nd 4 pc (nd 1 pc (lf 0 pc (oALd 0 1)) (lf 1 pc (oGetI 4 3 4))) (nd 7 pc (lf 4 pc (oIfEq 7 14)) (lf 7 pc (oALd 0 8)))) (nd 13 pc (nd 10 pc (lf 8 pc (oCst (-1000004) 10)) (lf 10 pc (oCaV 2 4 S_X4_tell 13))) (nd 14 pc (lf 13 pc (oIRet)) (lf 14 pc (oALd 0 15))))) (nd 25 pc (nd 19 pc (nd 18 pc (lf 15 pc (oGetR 4 0 18)) (lf 18 pc (oALd 0 19))) (nd 22 pc (lf 19 pc (oGetR 4 2 22)) (lf 22 pc (oCaV 2 0 S_X0_become 25)))) (nd 29 pc (nd 26 pc (lf 25 pc (oALd 0 26)) (lf 26 pc (oGetR 4 0 29))) (nd 32 pc (lf 29 pc (oGetI 0 3 32)) (lf 32 pc (oIRet)))))
theorem ok_X4_undo {l : Launch} {G : Gm} : ∀ pc, OkU (TXm l G (rmD 3) 1 cX4_undo RX4) (RXm l G (rmD 3) 1 cX4_undo RX4 (some .int)) pc (P_X4_undo pc) := fun pc => ok_nd (ok_nd (ok_nd (ok_nd (ok_lf (ok_ALdn d_X4_undo_0 rfl rfl)) (ok_lf (ok_GetI (by decide) (by decide) rfl d_X4_undo_1 q157 rfl))) (ok_nd (ok_lf (ok_IfNe d_X4_undo_4 (by decide) rfl)) (ok_lf (ok_ALdn d_X4_undo_7 rfl rfl)))) (ok_nd (ok_nd (ok_lf (ok_Ldc d_X4_undo_8 q301 rfl)) (ok_lf (ok_CaV su_X4_tell (by decide) rfl d_X4_undo_10 q184 q186 z0 q1 q187 ⟨by decide +kernel, by decide +kernel, by decide +kernel⟩ ⟨by decide, by decide⟩ rfl))) (ok_nd (ok_lf (ok_IRet d_X4_undo_13)) (ok_lf (ok_ALdn d_X4_undo_14 rfl rfl))))) (ok_nd (ok_nd (ok_nd (ok_lf (ok_GetR (by decide) (by decide) rfl d_X4_undo_15 q154 rfl)) (ok_lf (ok_ALdn d_X4_undo_18 rfl rfl))) (ok_nd (ok_lf (ok_GetR (by decide) (by decide) rfl d_X4_undo_19 q156 rfl)) (ok_lf (ok_CaVN su_X0_become (by decide) rfl d_X4_undo_22 q365 q367 z28 q2 q368 ⟨by decide +kernel, by decide +kernel, by decide +kernel⟩ ⟨by decide, by decide⟩ rfl)))) (ok_nd (ok_nd (ok_lf (ok_ALdn d_X4_undo_25 rfl rfl)) (ok_lf (ok_GetR (by decide) (by decide) rfl d_X4_undo_26 q154 rfl))) (ok_nd (ok_lf (ok_GetIN (by decide) (by decide) rfl d_X4_undo_29 q76 rfl)) (ok_lf (ok_IRet d_X4_undo_32)))))
noncomputable def S_X4_undo : Sem := lockS (inl P_X4_undo 18 1) 0
theorem su_X4_undo {l : Launch} {G : Gm} : SemU l G yX4_undo (wsOf yX4_undo cX4_undo 1 (some .int)) 3 S_X4_undo := sem_lock (sem_inl 18 (by decide +kernel) rfl ok_X4_undo)
theorem d_X4_tear_0 : decode cX4_tear 0 = .ok (.aload_n 0, 1) := by decide +kernel
theorem d_X4_tear_1 : decode cX4_tear 1 = .ok (.getfield 22, 3) := by decide +kernel
theorem d_X4_tear_4 : decode cX4_tear 4 = .ok (.ifCond .eq 7, 3) := by decide +kernel
theorem d_X4_tear_7 : decode cX4_tear 7 = .ok (.iconst 1, 1) := by decide +kernel
theorem d_X4_tear_8 : decode cX4_tear 8 = .ok (.goto 4, 3) := by decide +kernel
theorem d_X4_tear_11 : decode cX4_tear 11 = .ok (.iconst 0, 1) := by decide +kernel
theorem d_X4_tear_12 : decode cX4_tear 12 = .ok (.istore_n 1, 1) := by decide +kernel
theorem d_X4_tear_13 : decode cX4_tear 13 = .ok (.aload_n 0, 1) := by decide +kernel
theorem d_X4_tear_14 : decode cX4_tear 14 = .ok (.iconst 0, 1) := by decide +kernel
theorem d_X4_tear_15 : decode cX4_tear 15 = .ok (.putfield 22, 3) := by decide +kernel
theorem d_X4_tear_18 : decode cX4_tear 18 = .ok (.iload_n 1, 1) := by decide +kernel
theorem d_X4_tear_19 : decode cX4_tear 19 = .ok (.ireturn, 1) := by decide +kernel
noncomputable def P_X4_tear : Nat → Op := fun pc => nd 12 pc (nd 7 pc (nd 1 pc (lf 0 pc (oALd 0 1)) (nd 4 pc (lf 1 pc (oGetI 4 3 4)) (lf 4 pc (oIfEq 11 7)))) (nd 8 pc (lf 7 pc (oCst 1 8)) (nd 11 pc (lf 8 pc (oGo 12)) (lf 11 pc (oCst 0 12))))) (nd 15 pc (nd 13 pc (lf 12 pc (oISt 1 13)) (nd 14 pc (lf 13 pc (oALd 0 14)) (lf 14 pc (oCst 0 15)))) (nd 18 pc (lf 15 pc (oPutZ 4 3 18)) (nd 19 pc (lf 18 pc (oILd 1 19)) (lf 19 pc (oIRet)))))
theorem ok_X4_tear {l : Launch} {G : Gm} : ∀ pc, OkU (TXm l G (rmD 1) 2 cX4_tear RX4) (RXm l G (rmD 1) 2 cX4_tear RX4 (some .int)) pc (P_X4_tear pc) := fun pc => ok_nd (ok_nd (ok_nd (ok_lf (ok_ALdn d_X4_tear_0 rfl rfl)) (ok_nd (ok_lf (ok_GetI (by decide) (by decide) rfl d_X4_tear_1 q157 rfl)) (ok_lf (ok_IfEq d_X4_tear_4 (by decide) rfl)))) (ok_nd (ok_lf (ok_ICst d_X4_tear_7 (by decide) rfl)) (ok_nd (ok_lf (ok_Go d_X4_tear_8 (by decide))) (ok_lf (ok_ICst d_X4_tear_11 (by decide) rfl))))) (ok_nd (ok_nd (ok_lf (ok_IStn d_X4_tear_12 rfl rfl)) (ok_nd (ok_lf (ok_ALdn d_X4_tear_13 rfl rfl)) (ok_lf (ok_ICst d_X4_tear_14 (by decide) rfl)))) (ok_nd (ok_lf (ok_PutZ (by decide) (by decide) rfl rfl (by decide +kernel) d_X4_tear_15 q157 rfl)) (ok_nd (ok_lf (ok_ILdn d_X4_tear_18 rfl rfl)) (ok_lf (ok_IRet d_X4_tear_19)))))
noncomputable def S_X4_tear : Sem := lockS (inl P_X4_tear 14 2) 0
theorem su_X4_tear {l : Launch} {G : Gm} : SemU l G yX4_tear (wsOf yX4_tear cX4_tear 2 (some .int)) 1 S_X4_tear := sem_lock (sem_inl 14 (by decide +kernel) rfl ok_X4_tear)
theorem d_X4_count_0 : decode cX4_count 0 = .ok (.iload_n 1, 1) := by decide +kernel
theorem d_X4_count_1 : decode cX4_count 1 = .ok (.tableswitch 111 0 7 #[47, 55, 63, 71, 79, 87, 95, 103], 47) := by decide +kernel
theorem d_X4_count_48 : decode cX4_count 48 = .ok (.aload_n 0, 1) := by decide +kernel
theorem d_X4_count_49 : decode cX4_count 49 = .ok (.getfield 12, 3) := by decide +kernel
theorem d_X4_count_52 : decode cX4_count 52 = .ok (.getfield 91, 3) := by decide +kernel
theorem d_X4_count_55 : decode cX4_count 55 = .ok (.ireturn, 1) := by decide +kernel
theorem d_X4_count_56 : decode cX4_count 56 = .ok (.aload_n 0, 1) := by decide +kernel
theorem d_X4_count_57 : decode cX4_count 57 = .ok (.getfield 12, 3) := by decide +kernel
theorem d_X4_count_60 : decode cX4_count 60 = .ok (.getfield 162, 3) := by decide +kernel
theorem d_X4_count_63 : decode cX4_count 63 = .ok (.ireturn, 1) := by decide +kernel
theorem d_X4_count_64 : decode cX4_count 64 = .ok (.aload_n 0, 1) := by decide +kernel
theorem d_X4_count_65 : decode cX4_count 65 = .ok (.getfield 12, 3) := by decide +kernel
theorem d_X4_count_68 : decode cX4_count 68 = .ok (.invokevirtual 121, 3) := by decide +kernel
theorem d_X4_count_71 : decode cX4_count 71 = .ok (.ireturn, 1) := by decide +kernel
theorem d_X4_count_72 : decode cX4_count 72 = .ok (.aload_n 0, 1) := by decide +kernel
theorem d_X4_count_73 : decode cX4_count 73 = .ok (.getfield 12, 3) := by decide +kernel
theorem d_X4_count_76 : decode cX4_count 76 = .ok (.getfield 60, 3) := by decide +kernel
theorem d_X4_count_79 : decode cX4_count 79 = .ok (.ireturn, 1) := by decide +kernel
theorem d_X4_count_80 : decode cX4_count 80 = .ok (.aload_n 0, 1) := by decide +kernel
theorem d_X4_count_81 : decode cX4_count 81 = .ok (.getfield 12, 3) := by decide +kernel
theorem d_X4_count_84 : decode cX4_count 84 = .ok (.invokevirtual 128, 3) := by decide +kernel
theorem d_X4_count_87 : decode cX4_count 87 = .ok (.ireturn, 1) := by decide +kernel
theorem d_X4_count_88 : decode cX4_count 88 = .ok (.aload_n 0, 1) := by decide +kernel
theorem d_X4_count_89 : decode cX4_count 89 = .ok (.getfield 29, 3) := by decide +kernel
theorem d_X4_count_92 : decode cX4_count 92 = .ok (.getfield 190, 3) := by decide +kernel
theorem d_X4_count_95 : decode cX4_count 95 = .ok (.ireturn, 1) := by decide +kernel
theorem d_X4_count_96 : decode cX4_count 96 = .ok (.aload_n 0, 1) := by decide +kernel
theorem d_X4_count_97 : decode cX4_count 97 = .ok (.getfield 12, 3) := by decide +kernel
theorem d_X4_count_100 : decode cX4_count 100 = .ok (.getfield 187, 3) := by decide +kernel
theorem d_X4_count_103 : decode cX4_count 103 = .ok (.ireturn, 1) := by decide +kernel
theorem d_X4_count_104 : decode cX4_count 104 = .ok (.aload_n 0, 1) := by decide +kernel
theorem d_X4_count_105 : decode cX4_count 105 = .ok (.getfield 12, 3) := by decide +kernel
theorem d_X4_count_108 : decode cX4_count 108 = .ok (.invokevirtual 239, 3) := by decide +kernel
theorem d_X4_count_111 : decode cX4_count 111 = .ok (.ireturn, 1) := by decide +kernel
theorem d_X4_count_112 : decode cX4_count 112 = .ok (.aload_n 0, 1) := by decide +kernel
theorem d_X4_count_113 : decode cX4_count 113 = .ok (.ldc 55, 2) := by decide +kernel
theorem d_X4_count_115 : decode cX4_count 115 = .ok (.invokevirtual 56, 3) := by decide +kernel
theorem d_X4_count_118 : decode cX4_count 118 = .ok (.ireturn, 1) := by decide +kernel
noncomputable def P_X4_count : Nat → Op := fun pc => nd 81 pc (nd 63 pc (nd 52 pc (nd 48 pc (nd 1 pc (lf 0 pc (oILd 1 1)) (lf 1 pc (oSw [(0, 48), (1, 56), (2, 64), (3, 72), (4, 80), (5, 88), (6, 96), (7, 104)] 112))) (nd 49 pc (lf 48 pc (oALd 0 49)) (lf 49 pc (oGetR 4 0 52)))) (nd 56 pc (nd 55 pc (lf 52 pc (oGetI 0 3 55)) (lf 55 pc (oIRet))) (nd 57 pc (lf 56 pc (oALd 0 57)) (nd 60 pc (lf 57 pc (oGetR 4 0 60)) (lf 60 pc (oGetI 0 7 63)))))) (nd 72 pc (nd 65 pc (nd 64 pc (lf 63 pc (oIRet)) (lf 64 pc (oALd 0 65))) (nd 68 pc (lf 65 pc (oGetR 4 0 68)) (nd 71 pc (lf 68 pc (oCaV 1 0 S_X0_wrongs 71)) (lf 71 pc (oIRet))))) (nd 76 pc (nd 73 pc (lf 72 pc (oALd 0 73)) (lf 73 pc (oGetR 4 0 76))) (nd 79 pc (lf 76 pc (oGetI 0 2 79)) (nd 80 pc (lf 79 pc (oIRet)) (lf 80 pc (oALd 0 81))))))) (nd 100 pc (nd 89 pc (nd 87 pc (nd 84 pc (lf 81 pc (oGetR 4 0 84)) (lf 84 pc (oCaV 1 0 S_X0_tempers 87))) (nd 88 pc (lf 87 pc (oIRet)) (lf 88 pc (oALd 0 89)))) (nd 95 pc (nd 92 pc (lf 89 pc (oGetR 4 4 92)) (lf 92 pc (oGetI 3 1 95))) (nd 96 pc (lf 95 pc (oIRet)) (nd 97 pc (lf 96 pc (oALd 0 97)) (lf 97 pc (oGetR 4 0 100)))))) (nd 111 pc (nd 104 pc (nd 103 pc (lf 100 pc (oGetI 0 4 103)) (lf 103 pc (oIRet))) (nd 105 pc (lf 104 pc (oALd 0 105)) (nd 108 pc (lf 105 pc (oGetR 4 0 108)) (lf 108 pc (oCaV 1 0 S_X0_heldSpots 111))))) (nd 113 pc (nd 112 pc (lf 111 pc (oIRet)) (lf 112 pc (oALd 0 113))) (nd 115 pc (lf 113 pc (oCst (-1000001) 115)) (nd 118 pc (lf 115 pc (oCaV 2 4 S_X4_tell 118)) (lf 118 pc (oIRet)))))))
theorem ok_X4_count {l : Launch} {G : Gm} : ∀ pc, OkU (TXm l G (rmD 3) 2 cX4_count RX4) (RXm l G (rmD 3) 2 cX4_count RX4 (some .int)) pc (P_X4_count pc) := fun pc => ok_nd (ok_nd (ok_nd (ok_nd (ok_nd (ok_lf (ok_ILdn d_X4_count_0 rfl rfl)) (ok_lf (ok_Tab d_X4_count_1 (by decide) (by decide) (by decide) (by decide)))) (ok_nd (ok_lf (ok_ALdn d_X4_count_48 rfl rfl)) (ok_lf (ok_GetR (by decide) (by decide) rfl d_X4_count_49 q154 rfl)))) (ok_nd (ok_nd (ok_lf (ok_GetIN (by decide) (by decide) rfl d_X4_count_52 q76 rfl)) (ok_lf (ok_IRet d_X4_count_55))) (ok_nd (ok_lf (ok_ALdn d_X4_count_56 rfl rfl)) (ok_nd (ok_lf (ok_GetR (by decide) (by decide) rfl d_X4_count_57 q154 rfl)) (ok_lf (ok_GetIN (by decide) (by decide) rfl d_X4_count_60 q85 rfl)))))) (ok_nd (ok_nd (ok_nd (ok_lf (ok_IRet d_X4_count_63)) (ok_lf (ok_ALdn d_X4_count_64 rfl rfl))) (ok_nd (ok_lf (ok_GetR (by decide) (by decide) rfl d_X4_count_65 q154 rfl)) (ok_nd (ok_lf (ok_CaVN su_X0_wrongs (by decide) rfl d_X4_count_68 q336 q338 z23 q2 q339 ⟨by decide +kernel, by decide +kernel, by decide +kernel⟩ ⟨by decide, by decide⟩ rfl)) (ok_lf (ok_IRet d_X4_count_71))))) (ok_nd (ok_nd (ok_lf (ok_ALdn d_X4_count_72 rfl rfl)) (ok_lf (ok_GetR (by decide) (by decide) rfl d_X4_count_73 q154 rfl))) (ok_nd (ok_lf (ok_GetIN (by decide) (by decide) rfl d_X4_count_76 q74 rfl)) (ok_nd (ok_lf (ok_IRet d_X4_count_79)) (ok_lf (ok_ALdn d_X4_count_80 rfl rfl))))))) (ok_nd (ok_nd (ok_nd (ok_nd (ok_lf (ok_GetR (by decide) (by decide) rfl d_X4_count_81 q154 rfl)) (ok_lf (ok_CaVN su_X0_tempers (by decide) rfl d_X4_count_84 q348 q350 z25 q2 q351 ⟨by decide +kernel, by decide +kernel, by decide +kernel⟩ ⟨by decide, by decide⟩ rfl))) (ok_nd (ok_lf (ok_IRet d_X4_count_87)) (ok_lf (ok_ALdn d_X4_count_88 rfl rfl)))) (ok_nd (ok_nd (ok_lf (ok_GetR (by decide) (by decide) rfl d_X4_count_89 q158 rfl)) (ok_lf (ok_GetIN (by decide) (by decide) rfl d_X4_count_92 q116 rfl))) (ok_nd (ok_lf (ok_IRet d_X4_count_95)) (ok_nd (ok_lf (ok_ALdn d_X4_count_96 rfl rfl)) (ok_lf (ok_GetR (by decide) (by decide) rfl d_X4_count_97 q154 rfl)))))) (ok_nd (ok_nd (ok_nd (ok_lf (ok_GetIN (by decide) (by decide) rfl d_X4_count_100 q78 rfl)) (ok_lf (ok_IRet d_X4_count_103))) (ok_nd (ok_lf (ok_ALdn d_X4_count_104 rfl rfl)) (ok_nd (ok_lf (ok_GetR (by decide) (by decide) rfl d_X4_count_105 q154 rfl)) (ok_lf (ok_CaVN su_X0_heldSpots (by decide) rfl d_X4_count_108 q680 q682 z54 q2 q683 ⟨by decide +kernel, by decide +kernel, by decide +kernel⟩ ⟨by decide, by decide⟩ rfl))))) (ok_nd (ok_nd (ok_lf (ok_IRet d_X4_count_111)) (ok_lf (ok_ALdn d_X4_count_112 rfl rfl))) (ok_nd (ok_lf (ok_Ldc d_X4_count_113 q183 rfl)) (ok_nd (ok_lf (ok_CaV su_X4_tell (by decide) rfl d_X4_count_115 q184 q186 z0 q1 q187 ⟨by decide +kernel, by decide +kernel, by decide +kernel⟩ ⟨by decide, by decide⟩ rfl)) (ok_lf (ok_IRet d_X4_count_118)))))))
noncomputable def S_X4_count : Sem := lockS (inl P_X4_count 40 2) 0
theorem su_X4_count {l : Launch} {G : Gm} : SemU l G yX4_count (wsOf yX4_count cX4_count 2 (some .int)) 3 S_X4_count := sem_lock (sem_inl 40 (by decide +kernel) rfl ok_X4_count)
theorem d_X4_status_0 : decode cX4_status 0 = .ok (.iload_n 1, 1) := by decide +kernel
theorem d_X4_status_1 : decode cX4_status 1 = .ok (.iconst 0, 1) := by decide +kernel
theorem d_X4_status_2 : decode cX4_status 2 = .ok (.bipush 6, 2) := by decide +kernel
theorem d_X4_status_4 : decode cX4_status 4 = .ok (.invokestatic 44, 3) := by decide +kernel
theorem d_X4_status_7 : decode cX4_status 7 = .ok (.ifCond .eq 10, 3) := by decide +kernel
theorem d_X4_status_10 : decode cX4_status 10 = .ok (.aload_n 0, 1) := by decide +kernel
theorem d_X4_status_11 : decode cX4_status 11 = .ok (.getfield 39, 3) := by decide +kernel
theorem d_X4_status_14 : decode cX4_status 14 = .ok (.iload_n 1, 1) := by decide +kernel
theorem d_X4_status_15 : decode cX4_status 15 = .ok (.iaload, 1) := by decide +kernel
theorem d_X4_status_16 : decode cX4_status 16 = .ok (.ireturn, 1) := by decide +kernel
theorem d_X4_status_17 : decode cX4_status 17 = .ok (.iload_n 1, 1) := by decide +kernel
theorem d_X4_status_18 : decode cX4_status 18 = .ok (.iconst (-1), 1) := by decide +kernel
theorem d_X4_status_19 : decode cX4_status 19 = .ok (.if_icmp .eq 10, 3) := by decide +kernel
theorem d_X4_status_22 : decode cX4_status 22 = .ok (.aload_n 0, 1) := by decide +kernel
theorem d_X4_status_23 : decode cX4_status 23 = .ok (.ldc 55, 2) := by decide +kernel
theorem d_X4_status_25 : decode cX4_status 25 = .ok (.invokevirtual 56, 3) := by decide +kernel
theorem d_X4_status_28 : decode cX4_status 28 = .ok (.ireturn, 1) := by decide +kernel
theorem d_X4_status_29 : decode cX4_status 29 = .ok (.iconst 0, 1) := by decide +kernel
theorem d_X4_status_30 : decode cX4_status 30 = .ok (.istore_n 2, 1) := by decide +kernel
theorem d_X4_status_31 : decode cX4_status 31 = .ok (.iconst 0, 1) := by decide +kernel
theorem d_X4_status_32 : decode cX4_status 32 = .ok (.istore_n 3, 1) := by decide +kernel
theorem d_X4_status_33 : decode cX4_status 33 = .ok (.iload_n 3, 1) := by decide +kernel
theorem d_X4_status_34 : decode cX4_status 34 = .ok (.bipush 7, 2) := by decide +kernel
theorem d_X4_status_36 : decode cX4_status 36 = .ok (.if_icmp .ge 18, 3) := by decide +kernel
theorem d_X4_status_39 : decode cX4_status 39 = .ok (.iload_n 2, 1) := by decide +kernel
theorem d_X4_status_40 : decode cX4_status 40 = .ok (.aload_n 0, 1) := by decide +kernel
theorem d_X4_status_41 : decode cX4_status 41 = .ok (.getfield 39, 3) := by decide +kernel
theorem d_X4_status_44 : decode cX4_status 44 = .ok (.iload_n 3, 1) := by decide +kernel
theorem d_X4_status_45 : decode cX4_status 45 = .ok (.iaload, 1) := by decide +kernel
theorem d_X4_status_46 : decode cX4_status 46 = .ok (.iadd, 1) := by decide +kernel
theorem d_X4_status_47 : decode cX4_status 47 = .ok (.istore_n 2, 1) := by decide +kernel
theorem d_X4_status_48 : decode cX4_status 48 = .ok (.iinc 3 1, 3) := by decide +kernel
theorem d_X4_status_51 : decode cX4_status 51 = .ok (.goto (-18), 3) := by decide +kernel
theorem d_X4_status_54 : decode cX4_status 54 = .ok (.iload_n 2, 1) := by decide +kernel
theorem d_X4_status_55 : decode cX4_status 55 = .ok (.ireturn, 1) := by decide +kernel
noncomputable def P_X4_status : Nat → Op := fun pc => nd 29 pc (nd 15 pc (nd 7 pc (nd 2 pc (nd 1 pc (lf 0 pc (oILd 1 1)) (lf 1 pc (oCst 0 2))) (nd 4 pc (lf 2 pc (oCst 6 4)) (lf 4 pc (oCaS 3 S_X4_isWithin 7)))) (nd 11 pc (nd 10 pc (lf 7 pc (oIfEq 17 10)) (lf 10 pc (oALd 0 11))) (nd 14 pc (lf 11 pc (oGetR 4 6 14)) (lf 14 pc (oILd 1 15))))) (nd 19 pc (nd 17 pc (nd 16 pc (lf 15 pc (oIAL 16)) (lf 16 pc (oIRet))) (nd 18 pc (lf 17 pc (oILd 1 18)) (lf 18 pc (oCst (-1) 19)))) (nd 23 pc (nd 22 pc (lf 19 pc (oCpEq 29 22)) (lf 22 pc (oALd 0 23))) (nd 25 pc (lf 23 pc (oCst (-1000001) 25)) (nd 28 pc (lf 25 pc (oCaV 2 4 S_X4_tell 28)) (lf 28 pc (oIRet))))))) (nd 41 pc (nd 33 pc (nd 31 pc (nd 30 pc (lf 29 pc (oCst 0 30)) (lf 30 pc (oISt 2 31))) (nd 32 pc (lf 31 pc (oCst 0 32)) (lf 32 pc (oISt 3 33)))) (nd 36 pc (nd 34 pc (lf 33 pc (lockO (oILd 3 34) 0)) (lf 34 pc (oCst 7 36))) (nd 39 pc (lf 36 pc (oCpLt 39 54)) (nd 40 pc (lf 39 pc (oILd 2 40)) (lf 40 pc (oALd 0 41)))))) (nd 47 pc (nd 45 pc (nd 44 pc (lf 41 pc (oGetR 4 6 44)) (lf 44 pc (oILd 3 45))) (nd 46 pc (lf 45 pc (oIAL 46)) (lf 46 pc (oBin (fun x y => x + y) 47)))) (nd 51 pc (nd 48 pc (lf 47 pc (oISt 2 48)) (lf 48 pc (oInc 3 1 51))) (nd 54 pc (lf 51 pc (oGo 33)) (nd 55 pc (lf 54 pc (oILd 2 55)) (lf 55 pc (oIRet)))))))
theorem ok_X4_status {l : Launch} {G : Gm} : ∀ pc, OkU (TXm l G (rmD 3) 4 cX4_status RX4) (RXm l G (rmD 3) 4 cX4_status RX4 (some .int)) pc (P_X4_status pc) := fun pc => ok_nd (ok_nd (ok_nd (ok_nd (ok_nd (ok_lf (ok_ILdn d_X4_status_0 rfl rfl)) (ok_lf (ok_ICst d_X4_status_1 (by decide) rfl))) (ok_nd (ok_lf (ok_BCst d_X4_status_2 (by decide) rfl)) (ok_lf (ok_CaS su_X4_isWithin d_X4_status_4 q180 q181 q1 q182 ⟨by decide +kernel, by decide +kernel, by decide +kernel⟩ ⟨by decide, by decide⟩ rfl)))) (ok_nd (ok_nd (ok_lf (ok_IfEq d_X4_status_7 (by decide) rfl)) (ok_lf (ok_ALdn d_X4_status_10 rfl rfl))) (ok_nd (ok_lf (ok_GetR (by decide) (by decide) rfl d_X4_status_11 q160 rfl)) (ok_lf (ok_ILdn d_X4_status_14 rfl rfl))))) (ok_nd (ok_nd (ok_nd (ok_lf (ok_IAL d_X4_status_15 rfl)) (ok_lf (ok_IRet d_X4_status_16))) (ok_nd (ok_lf (ok_ILdn d_X4_status_17 rfl rfl)) (ok_lf (ok_ICst d_X4_status_18 (by decide) rfl)))) (ok_nd (ok_nd (ok_lf (ok_CpEq d_X4_status_19 (by decide) rfl)) (ok_lf (ok_ALdn d_X4_status_22 rfl rfl))) (ok_nd (ok_lf (ok_Ldc d_X4_status_23 q183 rfl)) (ok_nd (ok_lf (ok_CaV su_X4_tell (by decide) rfl d_X4_status_25 q184 q186 z0 q1 q187 ⟨by decide +kernel, by decide +kernel, by decide +kernel⟩ ⟨by decide, by decide⟩ rfl)) (ok_lf (ok_IRet d_X4_status_28))))))) (ok_nd (ok_nd (ok_nd (ok_nd (ok_lf (ok_ICst d_X4_status_29 (by decide) rfl)) (ok_lf (ok_IStn d_X4_status_30 rfl rfl))) (ok_nd (ok_lf (ok_ICst d_X4_status_31 (by decide) rfl)) (ok_lf (ok_IStn d_X4_status_32 rfl rfl)))) (ok_nd (ok_nd (ok_lf (ok_lk (ok_ILdn d_X4_status_33 rfl rfl))) (ok_lf (ok_BCst d_X4_status_34 (by decide) rfl))) (ok_nd (ok_lf (ok_CpGe d_X4_status_36 (by decide) rfl)) (ok_nd (ok_lf (ok_ILdn d_X4_status_39 rfl rfl)) (ok_lf (ok_ALdn d_X4_status_40 rfl rfl)))))) (ok_nd (ok_nd (ok_nd (ok_lf (ok_GetR (by decide) (by decide) rfl d_X4_status_41 q160 rfl)) (ok_lf (ok_ILdn d_X4_status_44 rfl rfl))) (ok_nd (ok_lf (ok_IAL d_X4_status_45 rfl)) (ok_lf (ok_iadd d_X4_status_46 rfl)))) (ok_nd (ok_nd (ok_lf (ok_IStn d_X4_status_47 rfl rfl)) (ok_lf (ok_Inc d_X4_status_48 (by decide) rfl))) (ok_nd (ok_lf (ok_Go d_X4_status_51 (by decide))) (ok_nd (ok_lf (ok_ILdn d_X4_status_54 rfl rfl)) (ok_lf (ok_IRet d_X4_status_55)))))))
noncomputable def S_X4_status : Sem := lockS (inl P_X4_status 30000 4) 0
theorem su_X4_status {l : Launch} {G : Gm} : SemU l G yX4_status (wsOf yX4_status cX4_status 4 (some .int)) 3 S_X4_status := sem_lock (sem_inl 30000 (by decide +kernel) rfl ok_X4_status)
