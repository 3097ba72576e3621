theorem d_X5_finding_0 : decode cX5_finding 0 = .ok (.aload_n 0, 1) := by decide +kernel
theorem d_X5_finding_1 : decode cX5_finding 1 = .ok (.getfield 19, 3) := by decide +kernel
theorem d_X5_finding_4 : decode cX5_finding 4 = .ok (.ldc 60, 2) := by decide +kernel
theorem d_X5_finding_6 : decode cX5_finding 6 = .ok (.iload_n 1, 1) := by decide +kernel
theorem d_X5_finding_7 : decode cX5_finding 7 = .ok (.isub, 1) := by decide +kernel
theorem d_X5_finding_8 : decode cX5_finding 8 = .ok (.iconst 1, 1) := by decide +kernel
theorem d_X5_finding_9 : decode cX5_finding 9 = .ok (.iadd, 1) := by decide +kernel
theorem d_X5_finding_10 : decode cX5_finding 10 = .ok (.dup2, 1) := by decide +kernel
theorem d_X5_finding_11 : decode cX5_finding 11 = .ok (.iaload, 1) := by decide +kernel
theorem d_X5_finding_12 : decode cX5_finding 12 = .ok (.iconst 1, 1) := by decide +kernel
theorem d_X5_finding_13 : decode cX5_finding 13 = .ok (.iadd, 1) := by decide +kernel
theorem d_X5_finding_14 : decode cX5_finding 14 = .ok (.iastore, 1) := by decide +kernel
theorem d_X5_finding_15 : decode cX5_finding 15 = .ok (.aload_n 0, 1) := by decide +kernel
theorem d_X5_finding_16 : decode cX5_finding 16 = .ok (.getfield 19, 3) := by decide +kernel
theorem d_X5_finding_19 : decode cX5_finding 19 = .ok (.iconst 0, 1) := by decide +kernel
theorem d_X5_finding_20 : decode cX5_finding 20 = .ok (.dup2, 1) := by decide +kernel
theorem d_X5_finding_21 : decode cX5_finding 21 = .ok (.iaload, 1) := by decide +kernel
theorem d_X5_finding_22 : decode cX5_finding 22 = .ok (.iconst 1, 1) := by decide +kernel
theorem d_X5_finding_23 : decode cX5_finding 23 = .ok (.iadd, 1) := by decide +kernel
theorem d_X5_finding_24 : decode cX5_finding 24 = .ok (.iastore, 1) := by decide +kernel
theorem d_X5_finding_25 : decode cX5_finding 25 = .ok (.iload_n 1, 1) := by decide +kernel
theorem d_X5_finding_26 : decode cX5_finding 26 = .ok (.ireturn, 1) := by decide +kernel
noncomputable def P_X5_finding : Nat → Op := fun pc => nd 14 pc (nd 8 pc (nd 4 pc (nd 1 pc (lf 0 pc (oALd 0 1)) (lf 1 pc (oGetR 5 4 4))) (nd 6 pc (lf 4 pc (oCst (-1000001) 6)) (nd 7 pc (lf 6 pc (oILd 1 7)) (lf 7 pc (oBin (fun x y => x - y) 8))))) (nd 11 pc (nd 9 pc (lf 8 pc (oCst 1 9)) (nd 10 pc (lf 9 pc (oBin (fun x y => x + y) 10)) (lf 10 pc (oDup2 11)))) (nd 12 pc (lf 11 pc (oIAL 12)) (nd 13 pc (lf 12 pc (oCst 1 13)) (lf 13 pc (oBin (fun x y => x + y) 14)))))) (nd 21 pc (nd 16 pc (nd 15 pc (lf 14 pc (oIAS 15)) (lf 15 pc (oALd 0 16))) (nd 19 pc (lf 16 pc (oGetR 5 4 19)) (nd 20 pc (lf 19 pc (oCst 0 20)) (lf 20 pc (oDup2 21))))) (nd 24 pc (nd 22 pc (lf 21 pc (oIAL 22)) (nd 23 pc (lf 22 pc (oCst 1 23)) (lf 23 pc (oBin (fun x y => x + y) 24)))) (nd 25 pc (lf 24 pc (oIAS 25)) (nd 26 pc (lf 25 pc (oILd 1 26)) (lf 26 pc (oIRet))))))
theorem ok_X5_finding {l : Launch} {G : Gm} : ∀ pc, OkU (TXm l G (rmD 1) 2 cX5_finding RX5) (RXm l G (rmD 1) 2 cX5_finding RX5 (some .int)) pc (P_X5_finding pc) := fun pc => ok_nd (ok_nd (ok_nd (ok_nd (ok_lf (ok_ALdn d_X5_finding_0 rfl rfl)) (ok_lf (ok_GetR (by decide) (by decide) rfl d_X5_finding_1 q707 rfl))) (ok_nd (ok_lf (ok_Ldc d_X5_finding_4 q781 rfl)) (ok_nd (ok_lf (ok_ILdn d_X5_finding_6 rfl rfl)) (ok_lf (ok_isub d_X5_finding_7 rfl))))) (ok_nd (ok_nd (ok_lf (ok_ICst d_X5_finding_8 (by decide) rfl)) (ok_nd (ok_lf (ok_iadd d_X5_finding_9 rfl)) (ok_lf (ok_Dup2 d_X5_finding_10 rfl)))) (ok_nd (ok_lf (ok_IAL d_X5_finding_11 rfl)) (ok_nd (ok_lf (ok_ICst d_X5_finding_12 (by decide) rfl)) (ok_lf (ok_iadd d_X5_finding_13 rfl)))))) (ok_nd (ok_nd (ok_nd (ok_lf (ok_IAS d_X5_finding_14 rfl)) (ok_lf (ok_ALdn d_X5_finding_15 rfl rfl))) (ok_nd (ok_lf (ok_GetR (by decide) (by decide) rfl d_X5_finding_16 q707 rfl)) (ok_nd (ok_lf (ok_ICst d_X5_finding_19 (by decide) rfl)) (ok_lf (ok_Dup2 d_X5_finding_20 rfl))))) (ok_nd (ok_nd (ok_lf (ok_IAL d_X5_finding_21 rfl)) (ok_nd (ok_lf (ok_ICst d_X5_finding_22 (by decide) rfl)) (ok_lf (ok_iadd d_X5_finding_23 rfl)))) (ok_nd (ok_lf (ok_IAS d_X5_finding_24 rfl)) (ok_nd (ok_lf (ok_ILdn d_X5_finding_25 rfl rfl)) (ok_lf (ok_IRet d_X5_finding_26))))))
noncomputable def S_X5_finding : Sem := lockS (inl P_X5_finding 24 2) 0
theorem su_X5_finding {l : Launch} {G : Gm} : SemU l G yX5_finding (wsOf yX5_finding cX5_finding 2 (some .int)) 1 S_X5_finding := sem_lock (sem_inl 24 (by decide +kernel) rfl ok_X5_finding)
theorem d_X5_within_0 : decode cX5_within 0 = .ok (.iload_n 0, 1) := by decide +kernel
theorem d_X5_within_1 : decode cX5_within 1 = .ok (.iload_n 1, 1) := by decide +kernel
theorem d_X5_within_2 : decode cX5_within 2 = .ok (.if_icmp .lt 12, 3) := by decide +kernel
theorem d_X5_within_5 : decode cX5_within 5 = .ok (.iload_n 0, 1) := by decide +kernel
theorem d_X5_within_6 : decode cX5_within 6 = .ok (.iload_n 2, 1) := by decide +kernel
theorem d_X5_within_7 : decode cX5_within 7 = .ok (.if_icmp .gt 7, 3) := by decide +kernel
theorem d_X5_within_10 : decode cX5_within 10 = .ok (.iconst 1, 1) := by decide +kernel
theorem d_X5_within_11 : decode cX5_within 11 = .ok (.goto 4, 3) := by decide +kernel
theorem d_X5_within_14 : decode cX5_within 14 = .ok (.iconst 0, 1) := by decide +kernel
theorem d_X5_within_15 : decode cX5_within 15 = .ok (.ireturn, 1) := by decide +kernel
noncomputable def P_X5_within : Nat → Op := fun pc => nd 7 pc (nd 2 pc (nd 1 pc (lf 0 pc (oILd 0 1)) (lf 1 pc (oILd 1 2))) (nd 5 pc (lf 2 pc (oCpLt 14 5)) (nd 6 pc (lf 5 pc (oILd 0 6)) (lf 6 pc (oILd 2 7))))) (nd 11 pc (nd 10 pc (lf 7 pc (oCpGt 14 10)) (lf 10 pc (oCst 1 11))) (nd 14 pc (lf 11 pc (oGo 15)) (nd 15 pc (lf 14 pc (oCst 0 15)) (lf 15 pc (oZRet)))))
theorem ok_X5_within {l : Launch} {G : Gm} : ∀ pc, OkU (TXm l G (rmD 1) 3 cX5_within RX5) (RXm l G (rmD 1) 3 cX5_within RX5 (some .boolean)) pc (P_X5_within pc) := fun pc => ok_nd (ok_nd (ok_nd (ok_lf (ok_ILdn d_X5_within_0 rfl rfl)) (ok_lf (ok_ILdn d_X5_within_1 rfl rfl))) (ok_nd (ok_lf (ok_CpLt d_X5_within_2 (by decide) rfl)) (ok_nd (ok_lf (ok_ILdn d_X5_within_5 rfl rfl)) (ok_lf (ok_ILdn d_X5_within_6 rfl rfl))))) (ok_nd (ok_nd (ok_lf (ok_CpGt d_X5_within_7 (by decide) rfl)) (ok_lf (ok_ICst d_X5_within_10 (by decide) rfl))) (ok_nd (ok_lf (ok_Go d_X5_within_11 (by decide))) (ok_nd (ok_lf (ok_ICst d_X5_within_14 (by decide) rfl)) (ok_lf (ok_ZRet d_X5_within_15)))))
noncomputable def S_X5_within : Sem := inl P_X5_within 12 3
theorem su_X5_within {l : Launch} {G : Gm} : SemU l G yX5_within (wsOf yX5_within cX5_within 3 (some .boolean)) 1 S_X5_within := sem_inl 12 (by decide +kernel) rfl ok_X5_within
theorem d_X5_become_0 : decode cX5_become 0 = .ok (.aload_n 0, 1) := by decide +kernel
theorem d_X5_become_1 : decode cX5_become 1 = .ok (.getfield 9, 3) := by decide +kernel
theorem d_X5_become_4 : decode cX5_become 4 = .ok (.iload_n 1, 1) := by decide +kernel
theorem d_X5_become_5 : decode cX5_become 5 = .ok (.iaload, 1) := by decide +kernel
theorem d_X5_become_6 : decode cX5_become 6 = .ok (.istore_n 3, 1) := by decide +kernel
theorem d_X5_become_7 : decode cX5_become 7 = .ok (.aload_n 0, 1) := by decide +kernel
theorem d_X5_become_8 : decode cX5_become 8 = .ok (.getfield 9, 3) := by decide +kernel
theorem d_X5_become_11 : decode cX5_become 11 = .ok (.iload_n 1, 1) := by decide +kernel
theorem d_X5_become_12 : decode cX5_become 12 = .ok (.iload_n 2, 1) := by decide +kernel
theorem d_X5_become_13 : decode cX5_become 13 = .ok (.iastore, 1) := by decide +kernel
theorem d_X5_become_14 : decode cX5_become 14 = .ok (.iload_n 3, 1) := by decide +kernel
theorem d_X5_become_15 : decode cX5_become 15 = .ok (.ireturn, 1) := by decide +kernel
noncomputable def P_X5_become : Nat → Op := fun pc => nd 8 pc (nd 5 pc (nd 1 pc (lf 0 pc (oALd 0 1)) (nd 4 pc (lf 1 pc (oGetR 5 0 4)) (lf 4 pc (oILd 1 5)))) (nd 6 pc (lf 5 pc (oIAL 6)) (nd 7 pc (lf 6 pc (oISt 3 7)) (lf 7 pc (oALd 0 8))))) (nd 13 pc (nd 11 pc (lf 8 pc (oGetR 5 0 11)) (nd 12 pc (lf 11 pc (oILd 1 12)) (lf 12 pc (oILd 2 13)))) (nd 14 pc (lf 13 pc (oIAS 14)) (nd 15 pc (lf 14 pc (oILd 3 15)) (lf 15 pc (oIRet)))))
theorem ok_X5_become {l : Launch} {G : Gm} : ∀ pc, OkU (TXm l G (rmD 1) 4 cX5_become RX5) (RXm l G (rmD 1) 4 cX5_become RX5 (some .int)) pc (P_X5_become pc) := fun pc => ok_nd (ok_nd (ok_nd (ok_lf (ok_ALdn d_X5_become_0 rfl rfl)) (ok_nd (ok_lf (ok_GetR (by decide) (by decide) rfl d_X5_become_1 q703 rfl)) (ok_lf (ok_ILdn d_X5_become_4 rfl rfl)))) (ok_nd (ok_lf (ok_IAL d_X5_become_5 rfl)) (ok_nd (ok_lf (ok_IStn d_X5_become_6 rfl rfl)) (ok_lf (ok_ALdn d_X5_become_7 rfl rfl))))) (ok_nd (ok_nd (ok_lf (ok_GetR (by decide) (by decide) rfl d_X5_become_8 q703 rfl)) (ok_nd (ok_lf (ok_ILdn d_X5_become_11 rfl rfl)) (ok_lf (ok_ILdn d_X5_become_12 rfl rfl)))) (ok_nd (ok_lf (ok_IAS d_X5_become_13 rfl)) (ok_nd (ok_lf (ok_ILdn d_X5_become_14 rfl rfl)) (ok_lf (ok_IRet d_X5_become_15)))))
noncomputable def S_X5_become : Sem := inl P_X5_become 14 4
theorem su_X5_become {l : Launch} {G : Gm} : SemU l G yX5_become (wsOf yX5_become cX5_become 4 (some .int)) 1 S_X5_become := sem_inl 14 (by decide +kernel) rfl ok_X5_become
theorem d_X5_copyRow_0 : decode cX5_copyRow 0 = .ok (.iconst 0, 1) := by decide +kernel
theorem d_X5_copyRow_1 : decode cX5_copyRow 1 = .ok (.istore_n 2, 1) := by decide +kernel
theorem d_X5_copyRow_2 : decode cX5_copyRow 2 = .ok (.iload_n 2, 1) := by decide +kernel
theorem d_X5_copyRow_3 : decode cX5_copyRow 3 = .ok (.bipush 70, 2) := by decide +kernel
theorem d_X5_copyRow_5 : decode cX5_copyRow 5 = .ok (.if_icmp .ge 15, 3) := by decide +kernel
theorem d_X5_copyRow_8 : decode cX5_copyRow 8 = .ok (.aload_n 1, 1) := by decide +kernel
theorem d_X5_copyRow_9 : decode cX5_copyRow 9 = .ok (.iload_n 2, 1) := by decide +kernel
theorem d_X5_copyRow_10 : decode cX5_copyRow 10 = .ok (.aload_n 0, 1) := by decide +kernel
theorem d_X5_copyRow_11 : decode cX5_copyRow 11 = .ok (.iload_n 2, 1) := by decide +kernel
theorem d_X5_copyRow_12 : decode cX5_copyRow 12 = .ok (.iaload, 1) := by decide +kernel
theorem d_X5_copyRow_13 : decode cX5_copyRow 13 = .ok (.iastore, 1) := by decide +kernel
theorem d_X5_copyRow_14 : decode cX5_copyRow 14 = .ok (.iinc 2 1, 3) := by decide +kernel
theorem d_X5_copyRow_17 : decode cX5_copyRow 17 = .ok (.goto (-15), 3) := by decide +kernel
theorem d_X5_copyRow_20 : decode cX5_copyRow 20 = .ok (.return_, 1) := by decide +kernel
noncomputable def P_X5_copyRow : Nat → Op := fun pc => nd 10 pc (nd 3 pc (nd 1 pc (lf 0 pc (oCst 0 1)) (nd 2 pc (lf 1 pc (oISt 2 2)) (lf 2 pc (lockO (oILd 2 3) 0)))) (nd 8 pc (nd 5 pc (lf 3 pc (oCst 70 5)) (lf 5 pc (oCpLt 8 20))) (nd 9 pc (lf 8 pc (oALd 1 9)) (lf 9 pc (oILd 2 10))))) (nd 13 pc (nd 11 pc (lf 10 pc (oALd 0 11)) (nd 12 pc (lf 11 pc (oILd 2 12)) (lf 12 pc (oIAL 13)))) (nd 17 pc (nd 14 pc (lf 13 pc (oIAS 14)) (lf 14 pc (oInc 2 1 17))) (nd 20 pc (lf 17 pc (oGo 2)) (lf 20 pc (oVRet)))))
theorem ok_X5_copyRow {l : Launch} {G : Gm} : ∀ pc, OkU (TXm l G (rmD 1) 3 cX5_copyRow RX5) (RXm l G (rmD 1) 3 cX5_copyRow RX5 none) pc (P_X5_copyRow pc) := fun pc => ok_nd (ok_nd (ok_nd (ok_lf (ok_ICst d_X5_copyRow_0 (by decide) rfl)) (ok_nd (ok_lf (ok_IStn d_X5_copyRow_1 rfl rfl)) (ok_lf (ok_lk (ok_ILdn d_X5_copyRow_2 rfl rfl))))) (ok_nd (ok_nd (ok_lf (ok_BCst d_X5_copyRow_3 (by decide) rfl)) (ok_lf (ok_CpGe d_X5_copyRow_5 (by decide) rfl))) (ok_nd (ok_lf (ok_ALdn d_X5_copyRow_8 rfl rfl)) (ok_lf (ok_ILdn d_X5_copyRow_9 rfl rfl))))) (ok_nd (ok_nd (ok_lf (ok_ALdn d_X5_copyRow_10 rfl rfl)) (ok_nd (ok_lf (ok_ILdn d_X5_copyRow_11 rfl rfl)) (ok_lf (ok_IAL d_X5_copyRow_12 rfl)))) (ok_nd (ok_nd (ok_lf (ok_IAS d_X5_copyRow_13 rfl)) (ok_lf (ok_Inc d_X5_copyRow_14 (by decide) rfl))) (ok_nd (ok_lf (ok_Go d_X5_copyRow_17 (by decide))) (ok_lf (ok_VRet d_X5_copyRow_20)))))
noncomputable def S_X5_copyRow : Sem := lockS (inl P_X5_copyRow 30000 3) 0
theorem su_X5_copyRow {l : Launch} {G : Gm} : SemU l G yX5_copyRow (wsOf yX5_copyRow cX5_copyRow 3 none) 1 S_X5_copyRow := sem_lock (sem_inl 30000 (by decide +kernel) rfl ok_X5_copyRow)
theorem d_X5_putBack_0 : decode cX5_putBack 0 = .ok (.aload_n 0, 1) := by decide +kernel
theorem d_X5_putBack_1 : decode cX5_putBack 1 = .ok (.getfield 16, 3) := by decide +kernel
theorem d_X5_putBack_4 : decode cX5_putBack 4 = .ok (.aload_n 0, 1) := by decide +kernel
theorem d_X5_putBack_5 : decode cX5_putBack 5 = .ok (.getfield 9, 3) := by decide +kernel
theorem d_X5_putBack_8 : decode cX5_putBack 8 = .ok (.invokestatic 61, 3) := by decide +kernel
theorem d_X5_putBack_11 : decode cX5_putBack 11 = .ok (.iload_n 1, 1) := by decide +kernel
theorem d_X5_putBack_12 : decode cX5_putBack 12 = .ok (.ireturn, 1) := by decide +kernel
noncomputable def P_X5_putBack : Nat → Op := fun pc => nd 5 pc (nd 1 pc (lf 0 pc (oALd 0 1)) (nd 4 pc (lf 1 pc (oGetR 5 2 4)) (lf 4 pc (oALd 0 5)))) (nd 11 pc (nd 8 pc (lf 5 pc (oGetR 5 0 8)) (lf 8 pc (oCaS 2 S_X5_copyRow 11))) (nd 12 pc (lf 11 pc (oILd 1 12)) (lf 12 pc (oIRet))))
theorem ok_X5_putBack {l : Launch} {G : Gm} : ∀ pc, OkU (TXm l G (rmD 2) 2 cX5_putBack RX5) (RXm l G (rmD 2) 2 cX5_putBack RX5 (some .int)) pc (P_X5_putBack pc) := fun pc => ok_nd (ok_nd (ok_lf (ok_ALdn d_X5_putBack_0 rfl rfl)) (ok_nd (ok_lf (ok_GetR (by decide) (by decide) rfl d_X5_putBack_1 q705 rfl)) (ok_lf (ok_ALdn d_X5_putBack_4 rfl rfl)))) (ok_nd (ok_nd (ok_lf (ok_GetR (by decide) (by decide) rfl d_X5_putBack_5 q703 rfl)) (ok_lf (ok_CaS su_X5_copyRow d_X5_putBack_8 q939 q940 q6 q941 ⟨by decide +kernel, by decide +kernel, by decide +kernel⟩ ⟨by decide, by decide⟩ rfl))) (ok_nd (ok_lf (ok_ILdn d_X5_putBack_11 rfl rfl)) (ok_lf (ok_IRet d_X5_putBack_12))))
noncomputable def S_X5_putBack : Sem := lockS (inl P_X5_putBack 9 2) 0
theorem su_X5_putBack {l : Launch} {G : Gm} : SemU l G yX5_putBack (wsOf yX5_putBack cX5_putBack 2 (some .int)) 2 S_X5_putBack := sem_lock (sem_inl 9 (by decide +kernel) rfl ok_X5_putBack)
theorem d_X5_orNone_0 : decode cX5_orNone 0 = .ok (.iload_n 1, 1) := by decide +kernel
theorem d_X5_orNone_1 : decode cX5_orNone 1 = .ok (.ifCond .ge 12, 3) := by decide +kernel
theorem d_X5_orNone_4 : decode cX5_orNone 4 = .ok (.aload_n 0, 1) := by decide +kernel
theorem d_X5_orNone_5 : decode cX5_orNone 5 = .ok (.ldc 65, 2) := by decide +kernel
theorem d_X5_orNone_7 : decode cX5_orNone 7 = .ok (.invokevirtual 66, 3) := by decide +kernel
theorem d_X5_orNone_10 : decode cX5_orNone 10 = .ok (.goto 4, 3) := by decide +kernel
theorem d_X5_orNone_13 : decode cX5_orNone 13 = .ok (.iload_n 1, 1) := by decide +kernel
theorem d_X5_orNone_14 : decode cX5_orNone 14 = .ok (.ireturn, 1) := by decide +kernel
noncomputable def P_X5_orNone : Nat → Op := fun pc => nd 7 pc (nd 4 pc (nd 1 pc (lf 0 pc (oILd 1 1)) (lf 1 pc (oIfLt 4 13))) (nd 5 pc (lf 4 pc (oALd 0 5)) (lf 5 pc (oCst (-1000004) 7)))) (nd 13 pc (nd 10 pc (lf 7 pc (oCaV 2 5 S_X5_finding 10)) (lf 10 pc (oGo 14))) (nd 14 pc (lf 13 pc (oILd 1 14)) (lf 14 pc (oIRet))))
theorem ok_X5_orNone {l : Launch} {G : Gm} : ∀ pc, OkU (TXm l G (rmD 2) 2 cX5_orNone RX5) (RXm l G (rmD 2) 2 cX5_orNone RX5 (some .int)) pc (P_X5_orNone pc) := fun pc => ok_nd (ok_nd (ok_nd (ok_lf (ok_ILdn d_X5_orNone_0 rfl rfl)) (ok_lf (ok_IfGe d_X5_orNone_1 (by decide) rfl))) (ok_nd (ok_lf (ok_ALdn d_X5_orNone_4 rfl rfl)) (ok_lf (ok_Ldc d_X5_orNone_5 q888 rfl)))) (ok_nd (ok_nd (ok_lf (ok_CaV su_X5_finding (by decide) rfl d_X5_orNone_7 q782 q784 z56 q6 q785 ⟨by decide +kernel, by decide +kernel, by decide +kernel⟩ ⟨by decide, by decide⟩ rfl)) (ok_lf (ok_Go d_X5_orNone_10 (by decide)))) (ok_nd (ok_lf (ok_ILdn d_X5_orNone_13 rfl rfl)) (ok_lf (ok_IRet d_X5_orNone_14))))
noncomputable def S_X5_orNone : Sem := inl P_X5_orNone 10 2
theorem su_X5_orNone {l : Launch} {G : Gm} : SemU l G yX5_orNone (wsOf yX5_orNone cX5_orNone 2 (some .int)) 2 S_X5_orNone := sem_inl 10 (by decide +kernel) rfl ok_X5_orNone
theorem d_X5_bits_0 : decode cX5_bits 0 = .ok (.iconst 0, 1) := by decide +kernel
theorem d_X5_bits_1 : decode cX5_bits 1 = .ok (.istore_n 1, 1) := by decide +kernel
theorem d_X5_bits_2 : decode cX5_bits 2 = .ok (.iload_n 0, 1) := by decide +kernel
theorem d_X5_bits_3 : decode cX5_bits 3 = .ok (.istore_n 2, 1) := by decide +kernel
theorem d_X5_bits_4 : decode cX5_bits 4 = .ok (.iload_n 2, 1) := by decide +kernel
theorem d_X5_bits_5 : decode cX5_bits 5 = .ok (.ifCond .eq 15, 3) := by decide +kernel
theorem d_X5_bits_8 : decode cX5_bits 8 = .ok (.iinc 1 1, 3) := by decide +kernel
theorem d_X5_bits_11 : decode cX5_bits 11 = .ok (.iload_n 2, 1) := by decide +kernel
theorem d_X5_bits_12 : decode cX5_bits 12 = .ok (.iload_n 2, 1) := by decide +kernel
theorem d_X5_bits_13 : decode cX5_bits 13 = .ok (.iconst 1, 1) := by decide +kernel
theorem d_X5_bits_14 : decode cX5_bits 14 = .ok (.isub, 1) := by decide +kernel
theorem d_X5_bits_15 : decode cX5_bits 15 = .ok (.iand, 1) := by decide +kernel
theorem d_X5_bits_16 : decode cX5_bits 16 = .ok (.istore_n 2, 1) := by decide +kernel
theorem d_X5_bits_17 : decode cX5_bits 17 = .ok (.goto (-13), 3) := by decide +kernel
theorem d_X5_bits_20 : decode cX5_bits 20 = .ok (.iload_n 1, 1) := by decide +kernel
theorem d_X5_bits_21 : decode cX5_bits 21 = .ok (.ireturn, 1) := by decide +kernel
noncomputable def P_X5_bits : Nat → Op := fun pc => nd 12 pc (nd 4 pc (nd 2 pc (nd 1 pc (lf 0 pc (oCst 0 1)) (lf 1 pc (oISt 1 2))) (nd 3 pc (lf 2 pc (oILd 0 3)) (lf 3 pc (oISt 2 4)))) (nd 8 pc (nd 5 pc (lf 4 pc (lockO (oILd 2 5) 0)) (lf 5 pc (oIfEq 20 8))) (nd 11 pc (lf 8 pc (oInc 1 1 11)) (lf 11 pc (oILd 2 12))))) (nd 16 pc (nd 14 pc (nd 13 pc (lf 12 pc (oILd 2 13)) (lf 13 pc (oCst 1 14))) (nd 15 pc (lf 14 pc (oBin (fun x y => x - y) 15)) (lf 15 pc (oBin (fun x y => x &&& y) 16)))) (nd 20 pc (nd 17 pc (lf 16 pc (oISt 2 17)) (lf 17 pc (oGo 4))) (nd 21 pc (lf 20 pc (oILd 1 21)) (lf 21 pc (oIRet)))))
theorem ok_X5_bits {l : Launch} {G : Gm} : ∀ pc, OkU (TXm l G (rmD 1) 3 cX5_bits RX5) (RXm l G (rmD 1) 3 cX5_bits RX5 (some .int)) pc (P_X5_bits pc) := fun pc => ok_nd (ok_nd (ok_nd (ok_nd (ok_lf (ok_ICst d_X5_bits_0 (by decide) rfl)) (ok_lf (ok_IStn d_X5_bits_1 rfl rfl))) (ok_nd (ok_lf (ok_ILdn d_X5_bits_2 rfl rfl)) (ok_lf (ok_IStn d_X5_bits_3 rfl rfl)))) (ok_nd (ok_nd (ok_lf (ok_lk (ok_ILdn d_X5_bits_4 rfl rfl))) (ok_lf (ok_IfEq d_X5_bits_5 (by decide) rfl))) (ok_nd (ok_lf (ok_Inc d_X5_bits_8 (by decide) rfl)) (ok_lf (ok_ILdn d_X5_bits_11 rfl rfl))))) (ok_nd (ok_nd (ok_nd (ok_lf (ok_ILdn d_X5_bits_12 rfl rfl)) (ok_lf (ok_ICst d_X5_bits_13 (by decide) rfl))) (ok_nd (ok_lf (ok_isub d_X5_bits_14 rfl)) (ok_lf (ok_iand d_X5_bits_15 rfl)))) (ok_nd (ok_nd (ok_lf (ok_IStn d_X5_bits_16 rfl rfl)) (ok_lf (ok_Go d_X5_bits_17 (by decide)))) (ok_nd (ok_lf (ok_ILdn d_X5_bits_20 rfl rfl)) (ok_lf (ok_IRet d_X5_bits_21)))))
noncomputable def S_X5_bits : Sem := lockS (inl P_X5_bits 30000 3) 0
theorem su_X5_bits {l : Launch} {G : Gm} : SemU l G yX5_bits (wsOf yX5_bits cX5_bits 3 (some .int)) 1 S_X5_bits := sem_lock (sem_inl 30000 (by decide +kernel) rfl ok_X5_bits)
theorem d_X5_set_0 : decode cX5_set 0 = .ok (.iload_n 1, 1) := by decide +kernel
theorem d_X5_set_1 : decode cX5_set 1 = .ok (.ifCond .ne 13, 3) := by decide +kernel
theorem d_X5_set_4 : decode cX5_set 4 = .ok (.iload_n 2, 1) := by decide +kernel
theorem d_X5_set_5 : decode cX5_set 5 = .ok (.iconst 1, 1) := by decide +kernel
theorem d_X5_set_6 : decode cX5_set 6 = .ok (.bipush 60, 2) := by decide +kernel
theorem d_X5_set_8 : decode cX5_set 8 = .ok (.invokestatic 70, 3) := by decide +kernel
theorem d_X5_set_11 : decode cX5_set 11 = .ok (.goto 23, 3) := by decide +kernel
theorem d_X5_set_14 : decode cX5_set 14 = .ok (.iload_n 1, 1) := by decide +kernel
theorem d_X5_set_15 : decode cX5_set 15 = .ok (.iconst 1, 1) := by decide +kernel
theorem d_X5_set_16 : decode cX5_set 16 = .ok (.if_icmp .ne 17, 3) := by decide +kernel
theorem d_X5_set_19 : decode cX5_set 19 = .ok (.iload_n 2, 1) := by decide +kernel
theorem d_X5_set_20 : decode cX5_set 20 = .ok (.iconst 0, 1) := by decide +kernel
theorem d_X5_set_21 : decode cX5_set 21 = .ok (.bipush 9, 2) := by decide +kernel
theorem d_X5_set_23 : decode cX5_set 23 = .ok (.invokestatic 70, 3) := by decide +kernel
theorem d_X5_set_26 : decode cX5_set 26 = .ok (.ifCond .eq 7, 3) := by decide +kernel
theorem d_X5_set_29 : decode cX5_set 29 = .ok (.iconst 1, 1) := by decide +kernel
theorem d_X5_set_30 : decode cX5_set 30 = .ok (.goto 4, 3) := by decide +kernel
theorem d_X5_set_33 : decode cX5_set 33 = .ok (.iconst 0, 1) := by decide +kernel
theorem d_X5_set_34 : decode cX5_set 34 = .ok (.istore_n 3, 1) := by decide +kernel
theorem d_X5_set_35 : decode cX5_set 35 = .ok (.iload_n 3, 1) := by decide +kernel
theorem d_X5_set_36 : decode cX5_set 36 = .ok (.ifCond .eq 14, 3) := by decide +kernel
theorem d_X5_set_39 : decode cX5_set 39 = .ok (.aload_n 0, 1) := by decide +kernel
theorem d_X5_set_40 : decode cX5_set 40 = .ok (.iconst 3, 1) := by decide +kernel
theorem d_X5_set_41 : decode cX5_set 41 = .ok (.iload_n 1, 1) := by decide +kernel
theorem d_X5_set_42 : decode cX5_set 42 = .ok (.iadd, 1) := by decide +kernel
theorem d_X5_set_43 : decode cX5_set 43 = .ok (.iload_n 2, 1) := by decide +kernel
theorem d_X5_set_44 : decode cX5_set 44 = .ok (.invokevirtual 74, 3) := by decide +kernel
theorem d_X5_set_47 : decode cX5_set 47 = .ok (.goto 9, 3) := by decide +kernel
theorem d_X5_set_50 : decode cX5_set 50 = .ok (.aload_n 0, 1) := by decide +kernel
theorem d_X5_set_51 : decode cX5_set 51 = .ok (.ldc 60, 2) := by decide +kernel
theorem d_X5_set_53 : decode cX5_set 53 = .ok (.invokevirtual 66, 3) := by decide +kernel
theorem d_X5_set_56 : decode cX5_set 56 = .ok (.ireturn, 1) := by decide +kernel
noncomputable def P_X5_set : Nat → Op := fun pc => nd 30 pc (nd 15 pc (nd 6 pc (nd 4 pc (nd 1 pc (lf 0 pc (oILd 1 1)) (lf 1 pc (oIfEq 4 14))) (nd 5 pc (lf 4 pc (oILd 2 5)) (lf 5 pc (oCst 1 6)))) (nd 11 pc (nd 8 pc (lf 6 pc (oCst 60 8)) (lf 8 pc (oCaS 3 S_X5_within 11))) (nd 14 pc (lf 11 pc (oGo 34)) (lf 14 pc (oILd 1 15))))) (nd 21 pc (nd 19 pc (nd 16 pc (lf 15 pc (oCst 1 16)) (lf 16 pc (oCpEq 19 33))) (nd 20 pc (lf 19 pc (oILd 2 20)) (lf 20 pc (oCst 0 21)))) (nd 26 pc (nd 23 pc (lf 21 pc (oCst 9 23)) (lf 23 pc (oCaS 3 S_X5_within 26))) (nd 29 pc (lf 26 pc (oIfEq 33 29)) (lf 29 pc (oCst 1 30)))))) (nd 42 pc (nd 36 pc (nd 34 pc (nd 33 pc (lf 30 pc (oGo 34)) (lf 33 pc (oCst 0 34))) (nd 35 pc (lf 34 pc (oISt 3 35)) (lf 35 pc (oILd 3 36)))) (nd 40 pc (nd 39 pc (lf 36 pc (oIfEq 50 39)) (lf 39 pc (oALd 0 40))) (nd 41 pc (lf 40 pc (oCst 3 41)) (lf 41 pc (oILd 1 42))))) (nd 50 pc (nd 44 pc (nd 43 pc (lf 42 pc (oBin (fun x y => x + y) 43)) (lf 43 pc (oILd 2 44))) (nd 47 pc (lf 44 pc (oCaV 3 5 S_X5_become 47)) (lf 47 pc (oGo 56)))) (nd 53 pc (nd 51 pc (lf 50 pc (oALd 0 51)) (lf 51 pc (oCst (-1000001) 53))) (nd 56 pc (lf 53 pc (oCaV 2 5 S_X5_finding 56)) (lf 56 pc (oIRet))))))
theorem ok_X5_set {l : Launch} {G : Gm} : ∀ pc, OkU (TXm l G (rmD 2) 4 cX5_set RX5) (RXm l G (rmD 2) 4 cX5_set RX5 (some .int)) pc (P_X5_set pc) := fun pc => ok_nd (ok_nd (ok_nd (ok_nd (ok_nd (ok_lf (ok_ILdn d_X5_set_0 rfl rfl)) (ok_lf (ok_IfNe d_X5_set_1 (by decide) rfl))) (ok_nd (ok_lf (ok_ILdn d_X5_set_4 rfl rfl)) (ok_lf (ok_ICst d_X5_set_5 (by decide) rfl)))) (ok_nd (ok_nd (ok_lf (ok_BCst d_X5_set_6 (by decide) rfl)) (ok_lf (ok_CaS su_X5_within d_X5_set_8 q774 q775 q6 q776 ⟨by decide +kernel, by decide +kernel, by decide +kernel⟩ ⟨by decide, by decide⟩ rfl))) (ok_nd (ok_lf (ok_Go d_X5_set_11 (by decide))) (ok_lf (ok_ILdn d_X5_set_14 rfl rfl))))) (ok_nd (ok_nd (ok_nd (ok_lf (ok_ICst d_X5_set_15 (by decide) rfl)) (ok_lf (ok_CpNe d_X5_set_16 (by decide) rfl))) (ok_nd (ok_lf (ok_ILdn d_X5_set_19 rfl rfl)) (ok_lf (ok_ICst d_X5_set_20 (by decide) rfl)))) (ok_nd (ok_nd (ok_lf (ok_BCst d_X5_set_21 (by decide) rfl)) (ok_lf (ok_CaS su_X5_within d_X5_set_23 q774 q775 q6 q776 ⟨by decide +kernel, by decide +kernel, by decide +kernel⟩ ⟨by decide, by decide⟩ rfl))) (ok_nd (ok_lf (ok_IfEq d_X5_set_26 (by decide) rfl)) (ok_lf (ok_ICst d_X5_set_29 (by decide) rfl)))))) (ok_nd (ok_nd (ok_nd (ok_nd (ok_lf (ok_Go d_X5_set_30 (by decide))) (ok_lf (ok_ICst d_X5_set_33 (by decide) rfl))) (ok_nd (ok_lf (ok_IStn d_X5_set_34 rfl rfl)) (ok_lf (ok_ILdn d_X5_set_35 rfl rfl)))) (ok_nd (ok_nd (ok_lf (ok_IfEq d_X5_set_36 (by decide) rfl)) (ok_lf (ok_ALdn d_X5_set_39 rfl rfl))) (ok_nd (ok_lf (ok_ICst d_X5_set_40 (by decide) rfl)) (ok_lf (ok_ILdn d_X5_set_41 rfl rfl))))) (ok_nd (ok_nd (ok_nd (ok_lf (ok_iadd d_X5_set_42 rfl)) (ok_lf (ok_ILdn d_X5_set_43 rfl rfl))) (ok_nd (ok_lf (ok_CaV su_X5_become (by decide) rfl d_X5_set_44 q777 q779 z55 q6 q780 ⟨by decide +kernel, by decide +kernel, by decide +kernel⟩ ⟨by decide, by decide⟩ rfl)) (ok_lf (ok_Go d_X5_set_47 (by decide))))) (ok_nd (ok_nd (ok_lf (ok_ALdn d_X5_set_50 rfl rfl)) (ok_lf (ok_Ldc d_X5_set_51 q781 rfl))) (ok_nd (ok_lf (ok_CaV su_X5_finding (by decide) rfl d_X5_set_53 q782 q784 z56 q6 q785 ⟨by decide +kernel, by decide +kernel, by decide +kernel⟩ ⟨by decide, by decide⟩ rfl)) (ok_lf (ok_IRet d_X5_set_56))))))
noncomputable def S_X5_set : Sem := lockS (inl P_X5_set 34 4) 0
theorem su_X5_set {l : Launch} {G : Gm} : SemU l G yX5_set (wsOf yX5_set cX5_set 4 (some .int)) 2 S_X5_set := sem_lock (sem_inl 34 (by decide +kernel) rfl ok_X5_set)
theorem d_X5_court_0 : decode cX5_court 0 = .ok (.iload_n 1, 1) := by decide +kernel
theorem d_X5_court_1 : decode cX5_court 1 = .ok (.iconst 0, 1) := by decide +kernel
theorem d_X5_court_2 : decode cX5_court 2 = .ok (.iconst 2, 1) := by decide +kernel
theorem d_X5_court_3 : decode cX5_court 3 = .ok (.invokestatic 70, 3) := by decide +kernel
theorem d_X5_court_6 : decode cX5_court 6 = .ok (.ifCond .eq 14, 3) := by decide +kernel
theorem d_X5_court_9 : decode cX5_court 9 = .ok (.aload_n 0, 1) := by decide +kernel
theorem d_X5_court_10 : decode cX5_court 10 = .ok (.getfield 9, 3) := by decide +kernel
theorem d_X5_court_13 : decode cX5_court 13 = .ok (.iconst 3, 1) := by decide +kernel
theorem d_X5_court_14 : decode cX5_court 14 = .ok (.iload_n 1, 1) := by decide +kernel
theorem d_X5_court_15 : decode cX5_court 15 = .ok (.iadd, 1) := by decide +kernel
theorem d_X5_court_16 : decode cX5_court 16 = .ok (.iaload, 1) := by decide +kernel
theorem d_X5_court_17 : decode cX5_court 17 = .ok (.goto 9, 3) := by decide +kernel
theorem d_X5_court_20 : decode cX5_court 20 = .ok (.aload_n 0, 1) := by decide +kernel
theorem d_X5_court_21 : decode cX5_court 21 = .ok (.ldc 60, 2) := by decide +kernel
theorem d_X5_court_23 : decode cX5_court 23 = .ok (.invokevirtual 66, 3) := by decide +kernel
theorem d_X5_court_26 : decode cX5_court 26 = .ok (.ireturn, 1) := by decide +kernel
noncomputable def P_X5_court : Nat → Op := fun pc => nd 14 pc (nd 6 pc (nd 2 pc (nd 1 pc (lf 0 pc (oILd 1 1)) (lf 1 pc (oCst 0 2))) (nd 3 pc (lf 2 pc (oCst 2 3)) (lf 3 pc (oCaS 3 S_X5_within 6)))) (nd 10 pc (nd 9 pc (lf 6 pc (oIfEq 20 9)) (lf 9 pc (oALd 0 10))) (nd 13 pc (lf 10 pc (oGetR 5 0 13)) (lf 13 pc (oCst 3 14))))) (nd 20 pc (nd 16 pc (nd 15 pc (lf 14 pc (oILd 1 15)) (lf 15 pc (oBin (fun x y => x + y) 16))) (nd 17 pc (lf 16 pc (oIAL 17)) (lf 17 pc (oGo 26)))) (nd 23 pc (nd 21 pc (lf 20 pc (oALd 0 21)) (lf 21 pc (oCst (-1000001) 23))) (nd 26 pc (lf 23 pc (oCaV 2 5 S_X5_finding 26)) (lf 26 pc (oIRet)))))
theorem ok_X5_court {l : Launch} {G : Gm} : ∀ pc, OkU (TXm l G (rmD 2) 2 cX5_court RX5) (RXm l G (rmD 2) 2 cX5_court RX5 (some .int)) pc (P_X5_court pc) := fun pc => ok_nd (ok_nd (ok_nd (ok_nd (ok_lf (ok_ILdn d_X5_court_0 rfl rfl)) (ok_lf (ok_ICst d_X5_court_1 (by decide) rfl))) (ok_nd (ok_lf (ok_ICst d_X5_court_2 (by decide) rfl)) (ok_lf (ok_CaS su_X5_within d_X5_court_3 q774 q775 q6 q776 ⟨by decide +kernel, by decide +kernel, by decide +kernel⟩ ⟨by decide, by decide⟩ rfl)))) (ok_nd (ok_nd (ok_lf (ok_IfEq d_X5_court_6 (by decide) rfl)) (ok_lf (ok_ALdn d_X5_court_9 rfl rfl))) (ok_nd (ok_lf (ok_GetR (by decide) (by decide) rfl d_X5_court_10 q703 rfl)) (ok_lf (ok_ICst d_X5_court_13 (by decide) rfl))))) (ok_nd (ok_nd (ok_nd (ok_lf (ok_ILdn d_X5_court_14 rfl rfl)) (ok_lf (ok_iadd d_X5_court_15 rfl))) (ok_nd (ok_lf (ok_IAL d_X5_court_16 rfl)) (ok_lf (ok_Go d_X5_court_17 (by decide))))) (ok_nd (ok_nd (ok_lf (ok_ALdn d_X5_court_20 rfl rfl)) (ok_lf (ok_Ldc d_X5_court_21 q781 rfl))) (ok_nd (ok_lf (ok_CaV su_X5_finding (by decide) rfl d_X5_court_23 q782 q784 z56 q6 q785 ⟨by decide +kernel, by decide +kernel, by decide +kernel⟩ ⟨by decide, by decide⟩ rfl)) (ok_lf (ok_IRet d_X5_court_26)))))
noncomputable def S_X5_court : Sem := lockS (inl P_X5_court 18 2) 0
theorem su_X5_court {l : Launch} {G : Gm} : SemU l G yX5_court (wsOf yX5_court cX5_court 2 (some .int)) 2 S_X5_court := sem_lock (sem_inl 18 (by decide +kernel) rfl ok_X5_court)
theorem d_X5_isPlace_0 : decode cX5_isPlace 0 = .ok (.iload_n 0, 1) := by decide +kernel
theorem d_X5_isPlace_1 : decode cX5_isPlace 1 = .ok (.iconst 0, 1) := by decide +kernel
theorem d_X5_isPlace_2 : decode cX5_isPlace 2 = .ok (.iconst 5, 1) := by decide +kernel
theorem d_X5_isPlace_3 : decode cX5_isPlace 3 = .ok (.invokestatic 70, 3) := by decide +kernel
theorem d_X5_isPlace_6 : decode cX5_isPlace 6 = .ok (.ireturn, 1) := by decide +kernel
noncomputable def P_X5_isPlace : Nat → Op := fun pc => nd 2 pc (nd 1 pc (lf 0 pc (oILd 0 1)) (lf 1 pc (oCst 0 2))) (nd 3 pc (lf 2 pc (oCst 5 3)) (nd 6 pc (lf 3 pc (oCaS 3 S_X5_within 6)) (lf 6 pc (oZRet))))
theorem ok_X5_isPlace {l : Launch} {G : Gm} : ∀ pc, OkU (TXm l G (rmD 2) 1 cX5_isPlace RX5) (RXm l G (rmD 2) 1 cX5_isPlace RX5 (some .boolean)) pc (P_X5_isPlace pc) := fun pc => ok_nd (ok_nd (ok_lf (ok_ILdn d_X5_isPlace_0 rfl rfl)) (ok_lf (ok_ICst d_X5_isPlace_1 (by decide) rfl))) (ok_nd (ok_lf (ok_ICst d_X5_isPlace_2 (by decide) rfl)) (ok_nd (ok_lf (ok_CaS su_X5_within d_X5_isPlace_3 q774 q775 q6 q776 ⟨by decide +kernel, by decide +kernel, by decide +kernel⟩ ⟨by decide, by decide⟩ rfl)) (ok_lf (ok_ZRet d_X5_isPlace_6))))
noncomputable def S_X5_isPlace : Sem := inl P_X5_isPlace 7 1
theorem su_X5_isPlace {l : Launch} {G : Gm} : SemU l G yX5_isPlace (wsOf yX5_isPlace cX5_isPlace 1 (some .boolean)) 2 S_X5_isPlace := sem_inl 7 (by decide +kernel) rfl ok_X5_isPlace
theorem d_X5_isSide_0 : decode cX5_isSide 0 = .ok (.iload_n 0, 1) := by decide +kernel
theorem d_X5_isSide_1 : decode cX5_isSide 1 = .ok (.iconst 0, 1) := by decide +kernel
theorem d_X5_isSide_2 : decode cX5_isSide 2 = .ok (.bipush 7, 2) := by decide +kernel
theorem d_X5_isSide_4 : decode cX5_isSide 4 = .ok (.invokestatic 70, 3) := by decide +kernel
theorem d_X5_isSide_7 : decode cX5_isSide 7 = .ok (.ireturn, 1) := by decide +kernel
noncomputable def P_X5_isSide : Nat → Op := fun pc => nd 2 pc (nd 1 pc (lf 0 pc (oILd 0 1)) (lf 1 pc (oCst 0 2))) (nd 4 pc (lf 2 pc (oCst 7 4)) (nd 7 pc (lf 4 pc (oCaS 3 S_X5_within 7)) (lf 7 pc (oZRet))))
theorem ok_X5_isSide {l : Launch} {G : Gm} : ∀ pc, OkU (TXm l G (rmD 2) 1 cX5_isSide RX5) (RXm l G (rmD 2) 1 cX5_isSide RX5 (some .boolean)) pc (P_X5_isSide pc) := fun pc => ok_nd (ok_nd (ok_lf (ok_ILdn d_X5_isSide_0 rfl rfl)) (ok_lf (ok_ICst d_X5_isSide_1 (by decide) rfl))) (ok_nd (ok_lf (ok_BCst d_X5_isSide_2 (by decide) rfl)) (ok_nd (ok_lf (ok_CaS su_X5_within d_X5_isSide_4 q774 q775 q6 q776 ⟨by decide +kernel, by decide +kernel, by decide +kernel⟩ ⟨by decide, by decide⟩ rfl)) (ok_lf (ok_ZRet d_X5_isSide_7))))
noncomputable def S_X5_isSide : Sem := inl P_X5_isSide 7 1
theorem su_X5_isSide {l : Launch} {G : Gm} : SemU l G yX5_isSide (wsOf yX5_isSide cX5_isSide 1 (some .boolean)) 2 S_X5_isSide := sem_inl 7 (by decide +kernel) rfl ok_X5_isSide
theorem d_X5_dispute_0 : decode cX5_dispute 0 = .ok (.iload_n 1, 1) := by decide +kernel
theorem d_X5_dispute_1 : decode cX5_dispute 1 = .ok (.invokestatic 78, 3) := by decide +kernel
theorem d_X5_dispute_4 : decode cX5_dispute 4 = .ok (.ifCond .eq 34, 3) := by decide +kernel
theorem d_X5_dispute_7 : decode cX5_dispute 7 = .ok (.iload_n 2, 1) := by decide +kernel
theorem d_X5_dispute_8 : decode cX5_dispute 8 = .ok (.invokestatic 82, 3) := by decide +kernel
theorem d_X5_dispute_11 : decode cX5_dispute 11 = .ok (.ifCond .eq 27, 3) := by decide +kernel
theorem d_X5_dispute_14 : decode cX5_dispute 14 = .ok (.iload_n 3, 1) := by decide +kernel
theorem d_X5_dispute_15 : decode cX5_dispute 15 = .ok (.invokestatic 82, 3) := by decide +kernel
theorem d_X5_dispute_18 : decode cX5_dispute 18 = .ok (.ifCond .eq 20, 3) := by decide +kernel
theorem d_X5_dispute_21 : decode cX5_dispute 21 = .ok (.aload_n 0, 1) := by decide +kernel
theorem d_X5_dispute_22 : decode cX5_dispute 22 = .ok (.bipush 6, 2) := by decide +kernel
theorem d_X5_dispute_24 : decode cX5_dispute 24 = .ok (.iload_n 1, 1) := by decide +kernel
theorem d_X5_dispute_25 : decode cX5_dispute 25 = .ok (.iadd, 1) := by decide +kernel
theorem d_X5_dispute_26 : decode cX5_dispute 26 = .ok (.bipush 10, 2) := by decide +kernel
theorem d_X5_dispute_28 : decode cX5_dispute 28 = .ok (.iload_n 2, 1) := by decide +kernel
theorem d_X5_dispute_29 : decode cX5_dispute 29 = .ok (.imul, 1) := by decide +kernel
theorem d_X5_dispute_30 : decode cX5_dispute 30 = .ok (.iload_n 3, 1) := by decide +kernel
theorem d_X5_dispute_31 : decode cX5_dispute 31 = .ok (.iadd, 1) := by decide +kernel
theorem d_X5_dispute_32 : decode cX5_dispute 32 = .ok (.invokevirtual 74, 3) := by decide +kernel
theorem d_X5_dispute_35 : decode cX5_dispute 35 = .ok (.goto 9, 3) := by decide +kernel
theorem d_X5_dispute_38 : decode cX5_dispute 38 = .ok (.aload_n 0, 1) := by decide +kernel
theorem d_X5_dispute_39 : decode cX5_dispute 39 = .ok (.ldc 60, 2) := by decide +kernel
theorem d_X5_dispute_41 : decode cX5_dispute 41 = .ok (.invokevirtual 66, 3) := by decide +kernel
theorem d_X5_dispute_44 : decode cX5_dispute 44 = .ok (.ireturn, 1) := by decide +kernel
noncomputable def P_X5_dispute : Nat → Op := fun pc => nd 25 pc (nd 14 pc (nd 7 pc (nd 1 pc (lf 0 pc (oILd 1 1)) (nd 4 pc (lf 1 pc (oCaS 1 S_X5_isPlace 4)) (lf 4 pc (oIfEq 38 7)))) (nd 8 pc (lf 7 pc (oILd 2 8)) (nd 11 pc (lf 8 pc (oCaS 1 S_X5_isSide 11)) (lf 11 pc (oIfEq 38 14))))) (nd 21 pc (nd 15 pc (lf 14 pc (oILd 3 15)) (nd 18 pc (lf 15 pc (oCaS 1 S_X5_isSide 18)) (lf 18 pc (oIfEq 38 21)))) (nd 22 pc (lf 21 pc (oALd 0 22)) (nd 24 pc (lf 22 pc (oCst 6 24)) (lf 24 pc (oILd 1 25)))))) (nd 32 pc (nd 29 pc (nd 26 pc (lf 25 pc (oBin (fun x y => x + y) 26)) (nd 28 pc (lf 26 pc (oCst 10 28)) (lf 28 pc (oILd 2 29)))) (nd 30 pc (lf 29 pc (oBin (fun x y => x * y) 30)) (nd 31 pc (lf 30 pc (oILd 3 31)) (lf 31 pc (oBin (fun x y => x + y) 32))))) (nd 39 pc (nd 35 pc (lf 32 pc (oCaV 3 5 S_X5_become 35)) (nd 38 pc (lf 35 pc (oGo 44)) (lf 38 pc (oALd 0 39)))) (nd 41 pc (lf 39 pc (oCst (-1000001) 41)) (nd 44 pc (lf 41 pc (oCaV 2 5 S_X5_finding 44)) (lf 44 pc (oIRet))))))
theorem ok_X5_dispute {l : Launch} {G : Gm} : ∀ pc, OkU (TXm l G (rmD 3) 4 cX5_dispute RX5) (RXm l G (rmD 3) 4 cX5_dispute RX5 (some .int)) pc (P_X5_dispute pc) := fun pc => ok_nd (ok_nd (ok_nd (ok_nd (ok_lf (ok_ILdn d_X5_dispute_0 rfl rfl)) (ok_nd (ok_lf (ok_CaS su_X5_isPlace d_X5_dispute_1 q794 q795 q6 q796 ⟨by decide +kernel, by decide +kernel, by decide +kernel⟩ ⟨by decide, by decide⟩ rfl)) (ok_lf (ok_IfEq d_X5_dispute_4 (by decide) rfl)))) (ok_nd (ok_lf (ok_ILdn d_X5_dispute_7 rfl rfl)) (ok_nd (ok_lf (ok_CaS su_X5_isSide d_X5_dispute_8 q797 q798 q6 q799 ⟨by decide +kernel, by decide +kernel, by decide +kernel⟩ ⟨by decide, by decide⟩ rfl)) (ok_lf (ok_IfEq d_X5_dispute_11 (by decide) rfl))))) (ok_nd (ok_nd (ok_lf (ok_ILdn d_X5_dispute_14 rfl rfl)) (ok_nd (ok_lf (ok_CaS su_X5_isSide d_X5_dispute_15 q797 q798 q6 q799 ⟨by decide +kernel, by decide +kernel, by decide +kernel⟩ ⟨by decide, by decide⟩ rfl)) (ok_lf (ok_IfEq d_X5_dispute_18 (by decide) rfl)))) (ok_nd (ok_lf (ok_ALdn d_X5_dispute_21 rfl rfl)) (ok_nd (ok_lf (ok_BCst d_X5_dispute_22 (by decide) rfl)) (ok_lf (ok_ILdn d_X5_dispute_24 rfl rfl)))))) (ok_nd (ok_nd (ok_nd (ok_lf (ok_iadd d_X5_dispute_25 rfl)) (ok_nd (ok_lf (ok_BCst d_X5_dispute_26 (by decide) rfl)) (ok_lf (ok_ILdn d_X5_dispute_28 rfl rfl)))) (ok_nd (ok_lf (ok_imul d_X5_dispute_29 rfl)) (ok_nd (ok_lf (ok_ILdn d_X5_dispute_30 rfl rfl)) (ok_lf (ok_iadd d_X5_dispute_31 rfl))))) (ok_nd (ok_nd (ok_lf (ok_CaV su_X5_become (by decide) rfl d_X5_dispute_32 q777 q779 z55 q6 q780 ⟨by decide +kernel, by decide +kernel, by decide +kernel⟩ ⟨by decide, by decide⟩ rfl)) (ok_nd (ok_lf (ok_Go d_X5_dispute_35 (by decide))) (ok_lf (ok_ALdn d_X5_dispute_38 rfl rfl)))) (ok_nd (ok_lf (ok_Ldc d_X5_dispute_39 q781 rfl)) (ok_nd (ok_lf (ok_CaV su_X5_finding (by decide) rfl d_X5_dispute_41 q782 q784 z56 q6 q785 ⟨by decide +kernel, by decide +kernel, by decide +kernel⟩ ⟨by decide, by decide⟩ rfl)) (ok_lf (ok_IRet d_X5_dispute_44))))))
noncomputable def S_X5_dispute : Sem := lockS (inl P_X5_dispute 26 4) 0
theorem su_X5_dispute {l : Launch} {G : Gm} : SemU l G yX5_dispute (wsOf yX5_dispute cX5_dispute 4 (some .int)) 3 S_X5_dispute := sem_lock (sem_inl 26 (by decide +kernel) rfl ok_X5_dispute)
theorem d_X5_listed_0 : decode cX5_listed 0 = .ok (.iload_n 1, 1) := by decide +kernel
theorem d_X5_listed_1 : decode cX5_listed 1 = .ok (.invokestatic 78, 3) := by decide +kernel
theorem d_X5_listed_4 : decode cX5_listed 4 = .ok (.ifCond .eq 15, 3) := by decide +kernel
theorem d_X5_listed_7 : decode cX5_listed 7 = .ok (.aload_n 0, 1) := by decide +kernel
theorem d_X5_listed_8 : decode cX5_listed 8 = .ok (.getfield 9, 3) := by decide +kernel
theorem d_X5_listed_11 : decode cX5_listed 11 = .ok (.bipush 6, 2) := by decide +kernel
theorem d_X5_listed_13 : decode cX5_listed 13 = .ok (.iload_n 1, 1) := by decide +kernel
theorem d_X5_listed_14 : decode cX5_listed 14 = .ok (.iadd, 1) := by decide +kernel
theorem d_X5_listed_15 : decode cX5_listed 15 = .ok (.iaload, 1) := by decide +kernel
theorem d_X5_listed_16 : decode cX5_listed 16 = .ok (.goto 9, 3) := by decide +kernel
theorem d_X5_listed_19 : decode cX5_listed 19 = .ok (.aload_n 0, 1) := by decide +kernel
theorem d_X5_listed_20 : decode cX5_listed 20 = .ok (.ldc 60, 2) := by decide +kernel
theorem d_X5_listed_22 : decode cX5_listed 22 = .ok (.invokevirtual 66, 3) := by decide +kernel
theorem d_X5_listed_25 : decode cX5_listed 25 = .ok (.ireturn, 1) := by decide +kernel
noncomputable def P_X5_listed : Nat → Op := fun pc => nd 14 pc (nd 7 pc (nd 1 pc (lf 0 pc (oILd 1 1)) (nd 4 pc (lf 1 pc (oCaS 1 S_X5_isPlace 4)) (lf 4 pc (oIfEq 19 7)))) (nd 11 pc (nd 8 pc (lf 7 pc (oALd 0 8)) (lf 8 pc (oGetR 5 0 11))) (nd 13 pc (lf 11 pc (oCst 6 13)) (lf 13 pc (oILd 1 14))))) (nd 19 pc (nd 15 pc (lf 14 pc (oBin (fun x y => x + y) 15)) (nd 16 pc (lf 15 pc (oIAL 16)) (lf 16 pc (oGo 25)))) (nd 22 pc (nd 20 pc (lf 19 pc (oALd 0 20)) (lf 20 pc (oCst (-1000001) 22))) (nd 25 pc (lf 22 pc (oCaV 2 5 S_X5_finding 25)) (lf 25 pc (oIRet)))))
theorem ok_X5_listed {l : Launch} {G : Gm} : ∀ pc, OkU (TXm l G (rmD 3) 2 cX5_listed RX5) (RXm l G (rmD 3) 2 cX5_listed RX5 (some .int)) pc (P_X5_listed pc) := fun pc => ok_nd (ok_nd (ok_nd (ok_lf (ok_ILdn d_X5_listed_0 rfl rfl)) (ok_nd (ok_lf (ok_CaS su_X5_isPlace d_X5_listed_1 q794 q795 q6 q796 ⟨by decide +kernel, by decide +kernel, by decide +kernel⟩ ⟨by decide, by decide⟩ rfl)) (ok_lf (ok_IfEq d_X5_listed_4 (by decide) rfl)))) (ok_nd (ok_nd (ok_lf (ok_ALdn d_X5_listed_7 rfl rfl)) (ok_lf (ok_GetR (by decide) (by decide) rfl d_X5_listed_8 q703 rfl))) (ok_nd (ok_lf (ok_BCst d_X5_listed_11 (by decide) rfl)) (ok_lf (ok_ILdn d_X5_listed_13 rfl rfl))))) (ok_nd (ok_nd (ok_lf (ok_iadd d_X5_listed_14 rfl)) (ok_nd (ok_lf (ok_IAL d_X5_listed_15 rfl)) (ok_lf (ok_Go d_X5_listed_16 (by decide))))) (ok_nd (ok_nd (ok_lf (ok_ALdn d_X5_listed_19 rfl rfl)) (ok_lf (ok_Ldc d_X5_listed_20 q781 rfl))) (ok_nd (ok_lf (ok_CaV su_X5_finding (by decide) rfl d_X5_listed_22 q782 q784 z56 q6 q785 ⟨by decide +kernel, by decide +kernel, by decide +kernel⟩ ⟨by decide, by decide⟩ rfl)) (ok_lf (ok_IRet d_X5_listed_25)))))
noncomputable def S_X5_listed : Sem := lockS (inl P_X5_listed 16 2) 0
theorem su_X5_listed {l : Launch} {G : Gm} : SemU l G yX5_listed (wsOf yX5_listed cX5_listed 2 (some .int)) 3 S_X5_listed := sem_lock (sem_inl 16 (by decide +kernel) rfl ok_X5_listed)
theorem d_X5_disputantAt_0 : decode cX5_disputantAt 0 = .ok (.bipush 22, 2) := by decide +kernel
theorem d_X5_disputantAt_2 : decode cX5_disputantAt 2 = .ok (.bipush 6, 2) := by decide +kernel
theorem d_X5_disputantAt_4 : decode cX5_disputantAt 4 = .ok (.iload_n 0, 1) := by decide +kernel
theorem d_X5_disputantAt_5 : decode cX5_disputantAt 5 = .ok (.imul, 1) := by decide +kernel
theorem d_X5_disputantAt_6 : decode cX5_disputantAt 6 = .ok (.iadd, 1) := by decide +kernel
theorem d_X5_disputantAt_7 : decode cX5_disputantAt 7 = .ok (.iload_n 1, 1) := by decide +kernel
theorem d_X5_disputantAt_8 : decode cX5_disputantAt 8 = .ok (.iadd, 1) := by decide +kernel
theorem d_X5_disputantAt_9 : decode cX5_disputantAt 9 = .ok (.ireturn, 1) := by decide +kernel
noncomputable def P_X5_disputantAt : Nat → Op := fun pc => nd 6 pc (nd 4 pc (nd 2 pc (lf 0 pc (oCst 22 2)) (lf 2 pc (oCst 6 4))) (nd 5 pc (lf 4 pc (oILd 0 5)) (lf 5 pc (oBin (fun x y => x * y) 6)))) (nd 8 pc (nd 7 pc (lf 6 pc (oBin (fun x y => x + y) 7)) (lf 7 pc (oILd 1 8))) (nd 9 pc (lf 8 pc (oBin (fun x y => x + y) 9)) (lf 9 pc (oIRet))))
theorem ok_X5_disputantAt {l : Launch} {G : Gm} : ∀ pc, OkU (TXm l G (rmD 1) 2 cX5_disputantAt RX5) (RXm l G (rmD 1) 2 cX5_disputantAt RX5 (some .int)) pc (P_X5_disputantAt pc) := fun pc => ok_nd (ok_nd (ok_nd (ok_lf (ok_BCst d_X5_disputantAt_0 (by decide) rfl)) (ok_lf (ok_BCst d_X5_disputantAt_2 (by decide) rfl))) (ok_nd (ok_lf (ok_ILdn d_X5_disputantAt_4 rfl rfl)) (ok_lf (ok_imul d_X5_disputantAt_5 rfl)))) (ok_nd (ok_nd (ok_lf (ok_iadd d_X5_disputantAt_6 rfl)) (ok_lf (ok_ILdn d_X5_disputantAt_7 rfl rfl))) (ok_nd (ok_lf (ok_iadd d_X5_disputantAt_8 rfl)) (ok_lf (ok_IRet d_X5_disputantAt_9))))
noncomputable def S_X5_disputantAt : Sem := inl P_X5_disputantAt 10 2
theorem su_X5_disputantAt {l : Launch} {G : Gm} : SemU l G yX5_disputantAt (wsOf yX5_disputantAt cX5_disputantAt 2 (some .int)) 1 S_X5_disputantAt := sem_inl 10 (by decide +kernel) rfl ok_X5_disputantAt
theorem d_X5_disputantIs_0 : decode cX5_disputantIs 0 = .ok (.aload_n 0, 1) := by decide +kernel
theorem d_X5_disputantIs_1 : decode cX5_disputantIs 1 = .ok (.getfield 9, 3) := by decide +kernel
theorem d_X5_disputantIs_4 : decode cX5_disputantIs 4 = .ok (.iload_n 1, 1) := by decide +kernel
theorem d_X5_disputantIs_5 : decode cX5_disputantIs 5 = .ok (.iload_n 2, 1) := by decide +kernel
theorem d_X5_disputantIs_6 : decode cX5_disputantIs 6 = .ok (.invokestatic 85, 3) := by decide +kernel
theorem d_X5_disputantIs_9 : decode cX5_disputantIs 9 = .ok (.iaload, 1) := by decide +kernel
theorem d_X5_disputantIs_10 : decode cX5_disputantIs 10 = .ok (.ireturn, 1) := by decide +kernel
noncomputable def P_X5_disputantIs : Nat → Op := fun pc => nd 5 pc (nd 1 pc (lf 0 pc (oALd 0 1)) (nd 4 pc (lf 1 pc (oGetR 5 0 4)) (lf 4 pc (oILd 1 5)))) (nd 9 pc (nd 6 pc (lf 5 pc (oILd 2 6)) (lf 6 pc (oCaS 2 S_X5_disputantAt 9))) (nd 10 pc (lf 9 pc (oIAL 10)) (lf 10 pc (oIRet))))
theorem ok_X5_disputantIs {l : Launch} {G : Gm} : ∀ pc, OkU (TXm l G (rmD 2) 3 cX5_disputantIs RX5) (RXm l G (rmD 2) 3 cX5_disputantIs RX5 (some .int)) pc (P_X5_disputantIs pc) := fun pc => ok_nd (ok_nd (ok_lf (ok_ALdn d_X5_disputantIs_0 rfl rfl)) (ok_nd (ok_lf (ok_GetR (by decide) (by decide) rfl d_X5_disputantIs_1 q703 rfl)) (ok_lf (ok_ILdn d_X5_disputantIs_4 rfl rfl)))) (ok_nd (ok_nd (ok_lf (ok_ILdn d_X5_disputantIs_5 rfl rfl)) (ok_lf (ok_CaS su_X5_disputantAt d_X5_disputantIs_6 q816 q817 q6 q818 ⟨by decide +kernel, by decide +kernel, by decide +kernel⟩ ⟨by decide, by decide⟩ rfl))) (ok_nd (ok_lf (ok_IAL d_X5_disputantIs_9 rfl)) (ok_lf (ok_IRet d_X5_disputantIs_10))))
noncomputable def S_X5_disputantIs : Sem := lockS (inl P_X5_disputantIs 9 3) 0
theorem su_X5_disputantIs {l : Launch} {G : Gm} : SemU l G yX5_disputantIs (wsOf yX5_disputantIs cX5_disputantIs 3 (some .int)) 2 S_X5_disputantIs := sem_lock (sem_inl 9 (by decide +kernel) rfl ok_X5_disputantIs)
theorem d_X5_isDisputant_0 : decode cX5_isDisputant 0 = .ok (.iload_n 1, 1) := by decide +kernel
theorem d_X5_isDisputant_1 : decode cX5_isDisputant 1 = .ok (.iconst 0, 1) := by decide +kernel
theorem d_X5_isDisputant_2 : decode cX5_isDisputant 2 = .ok (.aload_n 0, 1) := by decide +kernel
theorem d_X5_isDisputant_3 : decode cX5_isDisputant 3 = .ok (.getfield 9, 3) := by decide +kernel
theorem d_X5_isDisputant_6 : decode cX5_isDisputant 6 = .ok (.iconst 1, 1) := by decide +kernel
theorem d_X5_isDisputant_7 : decode cX5_isDisputant 7 = .ok (.iaload, 1) := by decide +kernel
theorem d_X5_isDisputant_8 : decode cX5_isDisputant 8 = .ok (.iconst 1, 1) := by decide +kernel
theorem d_X5_isDisputant_9 : decode cX5_isDisputant 9 = .ok (.isub, 1) := by decide +kernel
theorem d_X5_isDisputant_10 : decode cX5_isDisputant 10 = .ok (.invokestatic 70, 3) := by decide +kernel
theorem d_X5_isDisputant_13 : decode cX5_isDisputant 13 = .ok (.ireturn, 1) := by decide +kernel
noncomputable def P_X5_isDisputant : Nat → Op := fun pc => nd 7 pc (nd 2 pc (nd 1 pc (lf 0 pc (oILd 1 1)) (lf 1 pc (oCst 0 2))) (nd 3 pc (lf 2 pc (oALd 0 3)) (nd 6 pc (lf 3 pc (oGetR 5 0 6)) (lf 6 pc (oCst 1 7))))) (nd 9 pc (nd 8 pc (lf 7 pc (oIAL 8)) (lf 8 pc (oCst 1 9))) (nd 10 pc (lf 9 pc (oBin (fun x y => x - y) 10)) (nd 13 pc (lf 10 pc (oCaS 3 S_X5_within 13)) (lf 13 pc (oZRet)))))
theorem ok_X5_isDisputant {l : Launch} {G : Gm} : ∀ pc, OkU (TXm l G (rmD 2) 2 cX5_isDisputant RX5) (RXm l G (rmD 2) 2 cX5_isDisputant RX5 (some .boolean)) pc (P_X5_isDisputant pc) := fun pc => ok_nd (ok_nd (ok_nd (ok_lf (ok_ILdn d_X5_isDisputant_0 rfl rfl)) (ok_lf (ok_ICst d_X5_isDisputant_1 (by decide) rfl))) (ok_nd (ok_lf (ok_ALdn d_X5_isDisputant_2 rfl rfl)) (ok_nd (ok_lf (ok_GetR (by decide) (by decide) rfl d_X5_isDisputant_3 q703 rfl)) (ok_lf (ok_ICst d_X5_isDisputant_6 (by decide) rfl))))) (ok_nd (ok_nd (ok_lf (ok_IAL d_X5_isDisputant_7 rfl)) (ok_lf (ok_ICst d_X5_isDisputant_8 (by decide) rfl))) (ok_nd (ok_lf (ok_isub d_X5_isDisputant_9 rfl)) (ok_nd (ok_lf (ok_CaS su_X5_within d_X5_isDisputant_10 q774 q775 q6 q776 ⟨by decide +kernel, by decide +kernel, by decide +kernel⟩ ⟨by decide, by decide⟩ rfl)) (ok_lf (ok_ZRet d_X5_isDisputant_13)))))
noncomputable def S_X5_isDisputant : Sem := inl P_X5_isDisputant 12 2
theorem su_X5_isDisputant {l : Launch} {G : Gm} : SemU l G yX5_isDisputant (wsOf yX5_isDisputant cX5_isDisputant 2 (some .boolean)) 2 S_X5_isDisputant := sem_inl 12 (by decide +kernel) rfl ok_X5_isDisputant
theorem d_X5_isKind_0 : decode cX5_isKind 0 = .ok (.iload_n 0, 1) := by decide +kernel
theorem d_X5_isKind_1 : decode cX5_isKind 1 = .ok (.iconst 0, 1) := by decide +kernel
theorem d_X5_isKind_2 : decode cX5_isKind 2 = .ok (.bipush 6, 2) := by decide +kernel
theorem d_X5_isKind_4 : decode cX5_isKind 4 = .ok (.invokestatic 70, 3) := by decide +kernel
theorem d_X5_isKind_7 : decode cX5_isKind 7 = .ok (.ireturn, 1) := by decide +kernel
noncomputable def P_X5_isKind : Nat → Op := fun pc => nd 2 pc (nd 1 pc (lf 0 pc (oILd 0 1)) (lf 1 pc (oCst 0 2))) (nd 4 pc (lf 2 pc (oCst 6 4)) (nd 7 pc (lf 4 pc (oCaS 3 S_X5_within 7)) (lf 7 pc (oZRet))))
theorem ok_X5_isKind {l : Launch} {G : Gm} : ∀ pc, OkU (TXm l G (rmD 2) 1 cX5_isKind RX5) (RXm l G (rmD 2) 1 cX5_isKind RX5 (some .boolean)) pc (P_X5_isKind pc) := fun pc => ok_nd (ok_nd (ok_lf (ok_ILdn d_X5_isKind_0 rfl rfl)) (ok_lf (ok_ICst d_X5_isKind_1 (by decide) rfl))) (ok_nd (ok_lf (ok_BCst d_X5_isKind_2 (by decide) rfl)) (ok_nd (ok_lf (ok_CaS su_X5_within d_X5_isKind_4 q774 q775 q6 q776 ⟨by decide +kernel, by decide +kernel, by decide +kernel⟩ ⟨by decide, by decide⟩ rfl)) (ok_lf (ok_ZRet d_X5_isKind_7))))
noncomputable def S_X5_isKind : Sem := inl P_X5_isKind 7 1
theorem su_X5_isKind {l : Launch} {G : Gm} : SemU l G yX5_isKind (wsOf yX5_isKind cX5_isKind 1 (some .boolean)) 2 S_X5_isKind := sem_inl 7 (by decide +kernel) rfl ok_X5_isKind
theorem d_X5_comes_0 : decode cX5_comes 0 = .ok (.aload_n 0, 1) := by decide +kernel
theorem d_X5_comes_1 : decode cX5_comes 1 = .ok (.getfield 9, 3) := by decide +kernel
theorem d_X5_comes_4 : decode cX5_comes 4 = .ok (.iconst 1, 1) := by decide +kernel
theorem d_X5_comes_5 : decode cX5_comes 5 = .ok (.iaload, 1) := by decide +kernel
theorem d_X5_comes_6 : decode cX5_comes 6 = .ok (.istore_n 3, 1) := by decide +kernel
theorem d_X5_comes_7 : decode cX5_comes 7 = .ok (.iconst 0, 1) := by decide +kernel
theorem d_X5_comes_8 : decode cX5_comes 8 = .ok (.istore 4, 2) := by decide +kernel
theorem d_X5_comes_10 : decode cX5_comes 10 = .ok (.iload 4, 2) := by decide +kernel
theorem d_X5_comes_12 : decode cX5_comes 12 = .ok (.bipush 6, 2) := by decide +kernel
theorem d_X5_comes_14 : decode cX5_comes 14 = .ok (.if_icmp .ge 21, 3) := by decide +kernel
theorem d_X5_comes_17 : decode cX5_comes 17 = .ok (.aload_n 0, 1) := by decide +kernel
theorem d_X5_comes_18 : decode cX5_comes 18 = .ok (.getfield 9, 3) := by decide +kernel
theorem d_X5_comes_21 : decode cX5_comes 21 = .ok (.iload_n 3, 1) := by decide +kernel
theorem d_X5_comes_22 : decode cX5_comes 22 = .ok (.iload 4, 2) := by decide +kernel
theorem d_X5_comes_24 : decode cX5_comes 24 = .ok (.invokestatic 85, 3) := by decide +kernel
theorem d_X5_comes_27 : decode cX5_comes 27 = .ok (.iconst 0, 1) := by decide +kernel
theorem d_X5_comes_28 : decode cX5_comes 28 = .ok (.iastore, 1) := by decide +kernel
theorem d_X5_comes_29 : decode cX5_comes 29 = .ok (.iinc 4 1, 3) := by decide +kernel
theorem d_X5_comes_32 : decode cX5_comes 32 = .ok (.goto (-22), 3) := by decide +kernel
theorem d_X5_comes_35 : decode cX5_comes 35 = .ok (.aload_n 0, 1) := by decide +kernel
theorem d_X5_comes_36 : decode cX5_comes 36 = .ok (.getfield 9, 3) := by decide +kernel
theorem d_X5_comes_39 : decode cX5_comes 39 = .ok (.iload_n 3, 1) := by decide +kernel
theorem d_X5_comes_40 : decode cX5_comes 40 = .ok (.iconst 0, 1) := by decide +kernel
theorem d_X5_comes_41 : decode cX5_comes 41 = .ok (.invokestatic 85, 3) := by decide +kernel
theorem d_X5_comes_44 : decode cX5_comes 44 = .ok (.iload_n 1, 1) := by decide +kernel
theorem d_X5_comes_45 : decode cX5_comes 45 = .ok (.iastore, 1) := by decide +kernel
theorem d_X5_comes_46 : decode cX5_comes 46 = .ok (.aload_n 0, 1) := by decide +kernel
theorem d_X5_comes_47 : decode cX5_comes 47 = .ok (.getfield 9, 3) := by decide +kernel
theorem d_X5_comes_50 : decode cX5_comes 50 = .ok (.iload_n 3, 1) := by decide +kernel
theorem d_X5_comes_51 : decode cX5_comes 51 = .ok (.iconst 1, 1) := by decide +kernel
theorem d_X5_comes_52 : decode cX5_comes 52 = .ok (.invokestatic 85, 3) := by decide +kernel
theorem d_X5_comes_55 : decode cX5_comes 55 = .ok (.iload_n 2, 1) := by decide +kernel
theorem d_X5_comes_56 : decode cX5_comes 56 = .ok (.iastore, 1) := by decide +kernel
theorem d_X5_comes_57 : decode cX5_comes 57 = .ok (.aload_n 0, 1) := by decide +kernel
theorem d_X5_comes_58 : decode cX5_comes 58 = .ok (.getfield 9, 3) := by decide +kernel
theorem d_X5_comes_61 : decode cX5_comes 61 = .ok (.iload_n 3, 1) := by decide +kernel
theorem d_X5_comes_62 : decode cX5_comes 62 = .ok (.iconst 2, 1) := by decide +kernel
theorem d_X5_comes_63 : decode cX5_comes 63 = .ok (.invokestatic 85, 3) := by decide +kernel
theorem d_X5_comes_66 : decode cX5_comes 66 = .ok (.bipush 20, 2) := by decide +kernel
theorem d_X5_comes_68 : decode cX5_comes 68 = .ok (.iastore, 1) := by decide +kernel
theorem d_X5_comes_69 : decode cX5_comes 69 = .ok (.aload_n 0, 1) := by decide +kernel
theorem d_X5_comes_70 : decode cX5_comes 70 = .ok (.getfield 9, 3) := by decide +kernel
theorem d_X5_comes_73 : decode cX5_comes 73 = .ok (.iconst 1, 1) := by decide +kernel
theorem d_X5_comes_74 : decode cX5_comes 74 = .ok (.dup2, 1) := by decide +kernel
theorem d_X5_comes_75 : decode cX5_comes 75 = .ok (.iaload, 1) := by decide +kernel
theorem d_X5_comes_76 : decode cX5_comes 76 = .ok (.iconst 1, 1) := by decide +kernel
theorem d_X5_comes_77 : decode cX5_comes 77 = .ok (.iadd, 1) := by decide +kernel
theorem d_X5_comes_78 : decode cX5_comes 78 = .ok (.iastore, 1) := by decide +kernel
theorem d_X5_comes_79 : decode cX5_comes 79 = .ok (.iload_n 3, 1) := by decide +kernel
theorem d_X5_comes_80 : decode cX5_comes 80 = .ok (.ireturn, 1) := by decide +kernel
noncomputable def P_X5_comes : Nat → Op := fun pc => nd 45 pc (nd 21 pc (nd 8 pc (nd 5 pc (nd 1 pc (lf 0 pc (oALd 0 1)) (nd 4 pc (lf 1 pc (oGetR 5 0 4)) (lf 4 pc (oCst 1 5)))) (nd 6 pc (lf 5 pc (oIAL 6)) (nd 7 pc (lf 6 pc (oISt 3 7)) (lf 7 pc (oCst 0 8))))) (nd 14 pc (nd 10 pc (lf 8 pc (oISt 4 10)) (nd 12 pc (lf 10 pc (lockO (oILd 4 12) 0)) (lf 12 pc (oCst 6 14)))) (nd 17 pc (lf 14 pc (oCpLt 17 35)) (nd 18 pc (lf 17 pc (oALd 0 18)) (lf 18 pc (oGetR 5 0 21)))))) (nd 32 pc (nd 27 pc (nd 22 pc (lf 21 pc (oILd 3 22)) (nd 24 pc (lf 22 pc (oILd 4 24)) (lf 24 pc (oCaS 2 S_X5_disputantAt 27)))) (nd 28 pc (lf 27 pc (oCst 0 28)) (nd 29 pc (lf 28 pc (oIAS 29)) (lf 29 pc (oInc 4 1 32))))) (nd 39 pc (nd 35 pc (lf 32 pc (oGo 10)) (nd 36 pc (lf 35 pc (oALd 0 36)) (lf 36 pc (oGetR 5 0 39)))) (nd 41 pc (nd 40 pc (lf 39 pc (oILd 3 40)) (lf 40 pc (oCst 0 41))) (nd 44 pc (lf 41 pc (oCaS 2 S_X5_disputantAt 44)) (lf 44 pc (oILd 1 45))))))) (nd 63 pc (nd 55 pc (nd 50 pc (nd 46 pc (lf 45 pc (oIAS 46)) (nd 47 pc (lf 46 pc (oALd 0 47)) (lf 47 pc (oGetR 5 0 50)))) (nd 51 pc (lf 50 pc (oILd 3 51)) (nd 52 pc (lf 51 pc (oCst 1 52)) (lf 52 pc (oCaS 2 S_X5_disputantAt 55))))) (nd 58 pc (nd 56 pc (lf 55 pc (oILd 2 56)) (nd 57 pc (lf 56 pc (oIAS 57)) (lf 57 pc (oALd 0 58)))) (nd 61 pc (lf 58 pc (oGetR 5 0 61)) (nd 62 pc (lf 61 pc (oILd 3 62)) (lf 62 pc (oCst 2 63)))))) (nd 74 pc (nd 69 pc (nd 66 pc (lf 63 pc (oCaS 2 S_X5_disputantAt 66)) (nd 68 pc (lf 66 pc (oCst 20 68)) (lf 68 pc (oIAS 69)))) (nd 70 pc (lf 69 pc (oALd 0 70)) (nd 73 pc (lf 70 pc (oGetR 5 0 73)) (lf 73 pc (oCst 1 74))))) (nd 77 pc (nd 75 pc (lf 74 pc (oDup2 75)) (nd 76 pc (lf 75 pc (oIAL 76)) (lf 76 pc (oCst 1 77)))) (nd 79 pc (nd 78 pc (lf 77 pc (oBin (fun x y => x + y) 78)) (lf 78 pc (oIAS 79))) (nd 80 pc (lf 79 pc (oILd 3 80)) (lf 80 pc (oIRet)))))))
theorem ok_X5_comes {l : Launch} {G : Gm} : ∀ pc, OkU (TXm l G (rmD 2) 5 cX5_comes RX5) (RXm l G (rmD 2) 5 cX5_comes RX5 (some .int)) pc (P_X5_comes pc) := fun pc => ok_nd (ok_nd (ok_nd (ok_nd (ok_nd (ok_lf (ok_ALdn d_X5_comes_0 rfl rfl)) (ok_nd (ok_lf (ok_GetR (by decide) (by decide) rfl d_X5_comes_1 q703 rfl)) (ok_lf (ok_ICst d_X5_comes_4 (by decide) rfl)))) (ok_nd (ok_lf (ok_IAL d_X5_comes_5 rfl)) (ok_nd (ok_lf (ok_IStn d_X5_comes_6 rfl rfl)) (ok_lf (ok_ICst d_X5_comes_7 (by decide) rfl))))) (ok_nd (ok_nd (ok_lf (ok_ISt d_X5_comes_8 rfl)) (ok_nd (ok_lf (ok_lk (ok_ILd d_X5_comes_10 rfl))) (ok_lf (ok_BCst d_X5_comes_12 (by decide) rfl)))) (ok_nd (ok_lf (ok_CpGe d_X5_comes_14 (by decide) rfl)) (ok_nd (ok_lf (ok_ALdn d_X5_comes_17 rfl rfl)) (ok_lf (ok_GetR (by decide) (by decide) rfl d_X5_comes_18 q703 rfl)))))) (ok_nd (ok_nd (ok_nd (ok_lf (ok_ILdn d_X5_comes_21 rfl rfl)) (ok_nd (ok_lf (ok_ILd d_X5_comes_22 rfl)) (ok_lf (ok_CaS su_X5_disputantAt d_X5_comes_24 q816 q817 q6 q818 ⟨by decide +kernel, by decide +kernel, by decide +kernel⟩ ⟨by decide, by decide⟩ rfl)))) (ok_nd (ok_lf (ok_ICst d_X5_comes_27 (by decide) rfl)) (ok_nd (ok_lf (ok_IAS d_X5_comes_28 rfl)) (ok_lf (ok_Inc d_X5_comes_29 (by decide) rfl))))) (ok_nd (ok_nd (ok_lf (ok_Go d_X5_comes_32 (by decide))) (ok_nd (ok_lf (ok_ALdn d_X5_comes_35 rfl rfl)) (ok_lf (ok_GetR (by decide) (by decide) rfl d_X5_comes_36 q703 rfl)))) (ok_nd (ok_nd (ok_lf (ok_ILdn d_X5_comes_39 rfl rfl)) (ok_lf (ok_ICst d_X5_comes_40 (by decide) rfl))) (ok_nd (ok_lf (ok_CaS su_X5_disputantAt d_X5_comes_41 q816 q817 q6 q818 ⟨by decide +kernel, by decide +kernel, by decide +kernel⟩ ⟨by decide, by decide⟩ rfl)) (ok_lf (ok_ILdn d_X5_comes_44 rfl rfl))))))) (ok_nd (ok_nd (ok_nd (ok_nd (ok_lf (ok_IAS d_X5_comes_45 rfl)) (ok_nd (ok_lf (ok_ALdn d_X5_comes_46 rfl rfl)) (ok_lf (ok_GetR (by decide) (by decide) rfl d_X5_comes_47 q703 rfl)))) (ok_nd (ok_lf (ok_ILdn d_X5_comes_50 rfl rfl)) (ok_nd (ok_lf (ok_ICst d_X5_comes_51 (by decide) rfl)) (ok_lf (ok_CaS su_X5_disputantAt d_X5_comes_52 q816 q817 q6 q818 ⟨by decide +kernel, by decide +kernel, by decide +kernel⟩ ⟨by decide, by decide⟩ rfl))))) (ok_nd (ok_nd (ok_lf (ok_ILdn d_X5_comes_55 rfl rfl)) (ok_nd (ok_lf (ok_IAS d_X5_comes_56 rfl)) (ok_lf (ok_ALdn d_X5_comes_57 rfl rfl)))) (ok_nd (ok_lf (ok_GetR (by decide) (by decide) rfl d_X5_comes_58 q703 rfl)) (ok_nd (ok_lf (ok_ILdn d_X5_comes_61 rfl rfl)) (ok_lf (ok_ICst d_X5_comes_62 (by decide) rfl)))))) (ok_nd (ok_nd (ok_nd (ok_lf (ok_CaS su_X5_disputantAt d_X5_comes_63 q816 q817 q6 q818 ⟨by decide +kernel, by decide +kernel, by decide +kernel⟩ ⟨by decide, by decide⟩ rfl)) (ok_nd (ok_lf (ok_BCst d_X5_comes_66 (by decide) rfl)) (ok_lf (ok_IAS d_X5_comes_68 rfl)))) (ok_nd (ok_lf (ok_ALdn d_X5_comes_69 rfl rfl)) (ok_nd (ok_lf (ok_GetR (by decide) (by decide) rfl d_X5_comes_70 q703 rfl)) (ok_lf (ok_ICst d_X5_comes_73 (by decide) rfl))))) (ok_nd (ok_nd (ok_lf (ok_Dup2 d_X5_comes_74 rfl)) (ok_nd (ok_lf (ok_IAL d_X5_comes_75 rfl)) (ok_lf (ok_ICst d_X5_comes_76 (by decide) rfl)))) (ok_nd (ok_nd (ok_lf (ok_iadd d_X5_comes_77 rfl)) (ok_lf (ok_IAS d_X5_comes_78 rfl))) (ok_nd (ok_lf (ok_ILdn d_X5_comes_79 rfl rfl)) (ok_lf (ok_IRet d_X5_comes_80)))))))
noncomputable def S_X5_comes : Sem := lockS (inl P_X5_comes 30000 5) 0
theorem su_X5_comes {l : Launch} {G : Gm} : SemU l G yX5_comes (wsOf yX5_comes cX5_comes 5 (some .int)) 2 S_X5_comes := sem_lock (sem_inl 30000 (by decide +kernel) rfl ok_X5_comes)
theorem d_X5_disputant_0 : decode cX5_disputant 0 = .ok (.iload_n 1, 1) := by decide +kernel
theorem d_X5_disputant_1 : decode cX5_disputant 1 = .ok (.invokestatic 88, 3) := by decide +kernel
theorem d_X5_disputant_4 : decode cX5_disputant 4 = .ok (.ifCond .eq 13, 3) := by decide +kernel
theorem d_X5_disputant_7 : decode cX5_disputant 7 = .ok (.iload_n 2, 1) := by decide +kernel
theorem d_X5_disputant_8 : decode cX5_disputant 8 = .ok (.iconst 0, 1) := by decide +kernel
theorem d_X5_disputant_9 : decode cX5_disputant 9 = .ok (.bipush 99, 2) := by decide +kernel
theorem d_X5_disputant_11 : decode cX5_disputant 11 = .ok (.invokestatic 70, 3) := by decide +kernel
theorem d_X5_disputant_14 : decode cX5_disputant 14 = .ok (.ifCond .ne 10, 3) := by decide +kernel
theorem d_X5_disputant_17 : decode cX5_disputant 17 = .ok (.aload_n 0, 1) := by decide +kernel
theorem d_X5_disputant_18 : decode cX5_disputant 18 = .ok (.ldc 60, 2) := by decide +kernel
theorem d_X5_disputant_20 : decode cX5_disputant 20 = .ok (.invokevirtual 66, 3) := by decide +kernel
theorem d_X5_disputant_23 : decode cX5_disputant 23 = .ok (.ireturn, 1) := by decide +kernel
theorem d_X5_disputant_24 : decode cX5_disputant 24 = .ok (.aload_n 0, 1) := by decide +kernel
theorem d_X5_disputant_25 : decode cX5_disputant 25 = .ok (.getfield 9, 3) := by decide +kernel
theorem d_X5_disputant_28 : decode cX5_disputant 28 = .ok (.iconst 1, 1) := by decide +kernel
theorem d_X5_disputant_29 : decode cX5_disputant 29 = .ok (.iaload, 1) := by decide +kernel
theorem d_X5_disputant_30 : decode cX5_disputant 30 = .ok (.bipush 8, 2) := by decide +kernel
theorem d_X5_disputant_32 : decode cX5_disputant 32 = .ok (.if_icmp .ne 12, 3) := by decide +kernel
theorem d_X5_disputant_35 : decode cX5_disputant 35 = .ok (.aload_n 0, 1) := by decide +kernel
theorem d_X5_disputant_36 : decode cX5_disputant 36 = .ok (.ldc 91, 2) := by decide +kernel
theorem d_X5_disputant_38 : decode cX5_disputant 38 = .ok (.invokevirtual 66, 3) := by decide +kernel
theorem d_X5_disputant_41 : decode cX5_disputant 41 = .ok (.goto 9, 3) := by decide +kernel
theorem d_X5_disputant_44 : decode cX5_disputant 44 = .ok (.aload_n 0, 1) := by decide +kernel
theorem d_X5_disputant_45 : decode cX5_disputant 45 = .ok (.iload_n 1, 1) := by decide +kernel
theorem d_X5_disputant_46 : decode cX5_disputant 46 = .ok (.iload_n 2, 1) := by decide +kernel
theorem d_X5_disputant_47 : decode cX5_disputant 47 = .ok (.invokevirtual 92, 3) := by decide +kernel
theorem d_X5_disputant_50 : decode cX5_disputant 50 = .ok (.ireturn, 1) := by decide +kernel
noncomputable def P_X5_disputant : Nat → Op := fun pc => nd 25 pc (nd 11 pc (nd 7 pc (nd 1 pc (lf 0 pc (oILd 1 1)) (nd 4 pc (lf 1 pc (oCaS 1 S_X5_isKind 4)) (lf 4 pc (oIfEq 17 7)))) (nd 8 pc (lf 7 pc (oILd 2 8)) (nd 9 pc (lf 8 pc (oCst 0 9)) (lf 9 pc (oCst 99 11))))) (nd 18 pc (nd 14 pc (lf 11 pc (oCaS 3 S_X5_within 14)) (nd 17 pc (lf 14 pc (oIfEq 17 24)) (lf 17 pc (oALd 0 18)))) (nd 23 pc (nd 20 pc (lf 18 pc (oCst (-1000001) 20)) (lf 20 pc (oCaV 2 5 S_X5_finding 23))) (nd 24 pc (lf 23 pc (oIRet)) (lf 24 pc (oALd 0 25)))))) (nd 38 pc (nd 30 pc (nd 28 pc (lf 25 pc (oGetR 5 0 28)) (nd 29 pc (lf 28 pc (oCst 1 29)) (lf 29 pc (oIAL 30)))) (nd 35 pc (nd 32 pc (lf 30 pc (oCst 8 32)) (lf 32 pc (oCpEq 35 44))) (nd 36 pc (lf 35 pc (oALd 0 36)) (lf 36 pc (oCst (-1000002) 38))))) (nd 45 pc (nd 41 pc (lf 38 pc (oCaV 2 5 S_X5_finding 41)) (nd 44 pc (lf 41 pc (oGo 50)) (lf 44 pc (oALd 0 45)))) (nd 47 pc (nd 46 pc (lf 45 pc (oILd 1 46)) (lf 46 pc (oILd 2 47))) (nd 50 pc (lf 47 pc (oCaV 3 5 S_X5_comes 50)) (lf 50 pc (oIRet))))))
theorem ok_X5_disputant {l : Launch} {G : Gm} : ∀ pc, OkU (TXm l G (rmD 3) 3 cX5_disputant RX5) (RXm l G (rmD 3) 3 cX5_disputant RX5 (some .int)) pc (P_X5_disputant pc) := fun pc => ok_nd (ok_nd (ok_nd (ok_nd (ok_lf (ok_ILdn d_X5_disputant_0 rfl rfl)) (ok_nd (ok_lf (ok_CaS su_X5_isKind d_X5_disputant_1 q808 q809 q6 q810 ⟨by decide +kernel, by decide +kernel, by decide +kernel⟩ ⟨by decide, by decide⟩ rfl)) (ok_lf (ok_IfEq d_X5_disputant_4 (by decide) rfl)))) (ok_nd (ok_lf (ok_ILdn d_X5_disputant_7 rfl rfl)) (ok_nd (ok_lf (ok_ICst d_X5_disputant_8 (by decide) rfl)) (ok_lf (ok_BCst d_X5_disputant_9 (by decide) rfl))))) (ok_nd (ok_nd (ok_lf (ok_CaS su_X5_within d_X5_disputant_11 q774 q775 q6 q776 ⟨by decide +kernel, by decide +kernel, by decide +kernel⟩ ⟨by decide, by decide⟩ rfl)) (ok_nd (ok_lf (ok_IfNe d_X5_disputant_14 (by decide) rfl)) (ok_lf (ok_ALdn d_X5_disputant_17 rfl rfl)))) (ok_nd (ok_nd (ok_lf (ok_Ldc d_X5_disputant_18 q781 rfl)) (ok_lf (ok_CaV su_X5_finding (by decide) rfl d_X5_disputant_20 q782 q784 z56 q6 q785 ⟨by decide +kernel, by decide +kernel, by decide +kernel⟩ ⟨by decide, by decide⟩ rfl))) (ok_nd (ok_lf (ok_IRet d_X5_disputant_23)) (ok_lf (ok_ALdn d_X5_disputant_24 rfl rfl)))))) (ok_nd (ok_nd (ok_nd (ok_lf (ok_GetR (by decide) (by decide) rfl d_X5_disputant_25 q703 rfl)) (ok_nd (ok_lf (ok_ICst d_X5_disputant_28 (by decide) rfl)) (ok_lf (ok_IAL d_X5_disputant_29 rfl)))) (ok_nd (ok_nd (ok_lf (ok_BCst d_X5_disputant_30 (by decide) rfl)) (ok_lf (ok_CpNe d_X5_disputant_32 (by decide) rfl))) (ok_nd (ok_lf (ok_ALdn d_X5_disputant_35 rfl rfl)) (ok_lf (ok_Ldc d_X5_disputant_36 q811 rfl))))) (ok_nd (ok_nd (ok_lf (ok_CaV su_X5_finding (by decide) rfl d_X5_disputant_38 q782 q784 z56 q6 q785 ⟨by decide +kernel, by decide +kernel, by decide +kernel⟩ ⟨by decide, by decide⟩ rfl)) (ok_nd (ok_lf (ok_Go d_X5_disputant_41 (by decide))) (ok_lf (ok_ALdn d_X5_disputant_44 rfl rfl)))) (ok_nd (ok_nd (ok_lf (ok_ILdn d_X5_disputant_45 rfl rfl)) (ok_lf (ok_ILdn d_X5_disputant_46 rfl rfl))) (ok_nd (ok_lf (ok_CaV su_X5_comes (by decide) rfl d_X5_disputant_47 q812 q814 z57 q6 q815 ⟨by decide +kernel, by decide +kernel, by decide +kernel⟩ ⟨by decide, by decide⟩ rfl)) (ok_lf (ok_IRet d_X5_disputant_50))))))
noncomputable def S_X5_disputant : Sem := lockS (inl P_X5_disputant 29 3) 0
theorem su_X5_disputant {l : Launch} {G : Gm} : SemU l G yX5_disputant (wsOf yX5_disputant cX5_disputant 3 (some .int)) 3 S_X5_disputant := sem_lock (sem_inl 29 (by decide +kernel) rfl ok_X5_disputant)
theorem d_X5_presses_0 : decode cX5_presses 0 = .ok (.aload_n 0, 1) := by decide +kernel
theorem d_X5_presses_1 : decode cX5_presses 1 = .ok (.iload_n 1, 1) := by decide +kernel
theorem d_X5_presses_2 : decode cX5_presses 2 = .ok (.iconst 1, 1) := by decide +kernel
theorem d_X5_presses_3 : decode cX5_presses 3 = .ok (.invokevirtual 95, 3) := by decide +kernel
theorem d_X5_presses_6 : decode cX5_presses 6 = .ok (.istore_n 2, 1) := by decide +kernel
theorem d_X5_presses_7 : decode cX5_presses 7 = .ok (.iload_n 2, 1) := by decide +kernel
theorem d_X5_presses_8 : decode cX5_presses 8 = .ok (.aload_n 0, 1) := by decide +kernel
theorem d_X5_presses_9 : decode cX5_presses 9 = .ok (.iload_n 1, 1) := by decide +kernel
theorem d_X5_presses_10 : decode cX5_presses 10 = .ok (.iconst 2, 1) := by decide +kernel
theorem d_X5_presses_11 : decode cX5_presses 11 = .ok (.invokevirtual 95, 3) := by decide +kernel
theorem d_X5_presses_14 : decode cX5_presses 14 = .ok (.iconst 4, 1) := by decide +kernel
theorem d_X5_presses_15 : decode cX5_presses 15 = .ok (.idiv, 1) := by decide +kernel
theorem d_X5_presses_16 : decode cX5_presses 16 = .ok (.iadd, 1) := by decide +kernel
theorem d_X5_presses_17 : decode cX5_presses 17 = .ok (.istore_n 3, 1) := by decide +kernel
theorem d_X5_presses_18 : decode cX5_presses 18 = .ok (.aload_n 0, 1) := by decide +kernel
theorem d_X5_presses_19 : decode cX5_presses 19 = .ok (.getfield 9, 3) := by decide +kernel
theorem d_X5_presses_22 : decode cX5_presses 22 = .ok (.iconst 4, 1) := by decide +kernel
theorem d_X5_presses_23 : decode cX5_presses 23 = .ok (.iaload, 1) := by decide +kernel
theorem d_X5_presses_24 : decode cX5_presses 24 = .ok (.istore 4, 2) := by decide +kernel
theorem d_X5_presses_26 : decode cX5_presses 26 = .ok (.iload_n 2, 1) := by decide +kernel
theorem d_X5_presses_27 : decode cX5_presses 27 = .ok (.iload 4, 2) := by decide +kernel
theorem d_X5_presses_29 : decode cX5_presses 29 = .ok (.iconst 5, 1) := by decide +kernel
theorem d_X5_presses_30 : decode cX5_presses 30 = .ok (.if_icmp .ge 8, 3) := by decide +kernel
theorem d_X5_presses_33 : decode cX5_presses 33 = .ok (.iload 4, 2) := by decide +kernel
theorem d_X5_presses_35 : decode cX5_presses 35 = .ok (.goto 7, 3) := by decide +kernel
theorem d_X5_presses_38 : decode cX5_presses 38 = .ok (.iconst 2, 1) := by decide +kernel
theorem d_X5_presses_39 : decode cX5_presses 39 = .ok (.iload 4, 2) := by decide +kernel
theorem d_X5_presses_41 : decode cX5_presses 41 = .ok (.imul, 1) := by decide +kernel
theorem d_X5_presses_42 : decode cX5_presses 42 = .ok (.iadd, 1) := by decide +kernel
theorem d_X5_presses_43 : decode cX5_presses 43 = .ok (.istore 5, 2) := by decide +kernel
theorem d_X5_presses_45 : decode cX5_presses 45 = .ok (.aload_n 0, 1) := by decide +kernel
theorem d_X5_presses_46 : decode cX5_presses 46 = .ok (.iload_n 1, 1) := by decide +kernel
theorem d_X5_presses_47 : decode cX5_presses 47 = .ok (.iconst 0, 1) := by decide +kernel
theorem d_X5_presses_48 : decode cX5_presses 48 = .ok (.invokevirtual 95, 3) := by decide +kernel
theorem d_X5_presses_51 : decode cX5_presses 51 = .ok (.tableswitch 69 1 6 #[37, 39, 44, 47, 57, 61], 37) := by decide +kernel
theorem d_X5_presses_88 : decode cX5_presses 88 = .ok (.iload_n 3, 1) := by decide +kernel
theorem d_X5_presses_89 : decode cX5_presses 89 = .ok (.ireturn, 1) := by decide +kernel
theorem d_X5_presses_90 : decode cX5_presses 90 = .ok (.iload_n 2, 1) := by decide +kernel
theorem d_X5_presses_91 : decode cX5_presses 91 = .ok (.iload 4, 2) := by decide +kernel
theorem d_X5_presses_93 : decode cX5_presses 93 = .ok (.iadd, 1) := by decide +kernel
theorem d_X5_presses_94 : decode cX5_presses 94 = .ok (.ireturn, 1) := by decide +kernel
theorem d_X5_presses_95 : decode cX5_presses 95 = .ok (.iload 5, 2) := by decide +kernel
theorem d_X5_presses_97 : decode cX5_presses 97 = .ok (.ireturn, 1) := by decide +kernel
theorem d_X5_presses_98 : decode cX5_presses 98 = .ok (.bipush 99, 2) := by decide +kernel
theorem d_X5_presses_100 : decode cX5_presses 100 = .ok (.iconst 2, 1) := by decide +kernel
theorem d_X5_presses_101 : decode cX5_presses 101 = .ok (.iload 5, 2) := by decide +kernel
theorem d_X5_presses_103 : decode cX5_presses 103 = .ok (.imul, 1) := by decide +kernel
theorem d_X5_presses_104 : decode cX5_presses 104 = .ok (.invokestatic 98, 3) := by decide +kernel
theorem d_X5_presses_107 : decode cX5_presses 107 = .ok (.ireturn, 1) := by decide +kernel
theorem d_X5_presses_108 : decode cX5_presses 108 = .ok (.iload_n 2, 1) := by decide +kernel
theorem d_X5_presses_109 : decode cX5_presses 109 = .ok (.iconst 2, 1) := by decide +kernel
theorem d_X5_presses_110 : decode cX5_presses 110 = .ok (.idiv, 1) := by decide +kernel
theorem d_X5_presses_111 : decode cX5_presses 111 = .ok (.ireturn, 1) := by decide +kernel
theorem d_X5_presses_112 : decode cX5_presses 112 = .ok (.iconst 0, 1) := by decide +kernel
theorem d_X5_presses_113 : decode cX5_presses 113 = .ok (.iload_n 3, 1) := by decide +kernel
theorem d_X5_presses_114 : decode cX5_presses 114 = .ok (.iconst 5, 1) := by decide +kernel
theorem d_X5_presses_115 : decode cX5_presses 115 = .ok (.isub, 1) := by decide +kernel
theorem d_X5_presses_116 : decode cX5_presses 116 = .ok (.invokestatic 103, 3) := by decide +kernel
theorem d_X5_presses_119 : decode cX5_presses 119 = .ok (.ireturn, 1) := by decide +kernel
theorem d_X5_presses_120 : decode cX5_presses 120 = .ok (.iload_n 2, 1) := by decide +kernel
theorem d_X5_presses_121 : decode cX5_presses 121 = .ok (.ireturn, 1) := by decide +kernel
noncomputable def P_X5_presses : Nat → Op := fun pc => nd 45 pc (nd 19 pc (nd 9 pc (nd 3 pc (nd 1 pc (lf 0 pc (oALd 0 1)) (nd 2 pc (lf 1 pc (oILd 1 2)) (lf 2 pc (oCst 1 3)))) (nd 7 pc (nd 6 pc (lf 3 pc (oCaV 3 5 S_X5_disputantIs 6)) (lf 6 pc (oISt 2 7))) (nd 8 pc (lf 7 pc (oILd 2 8)) (lf 8 pc (oALd 0 9))))) (nd 15 pc (nd 11 pc (nd 10 pc (lf 9 pc (oILd 1 10)) (lf 10 pc (oCst 2 11))) (nd 14 pc (lf 11 pc (oCaV 3 5 S_X5_disputantIs 14)) (lf 14 pc (oCst 4 15)))) (nd 17 pc (nd 16 pc (lf 15 pc (oDiv (fun x y => x / y) 16)) (lf 16 pc (oBin (fun x y => x + y) 17))) (nd 18 pc (lf 17 pc (oISt 3 18)) (lf 18 pc (oALd 0 19)))))) (nd 30 pc (nd 24 pc (nd 22 pc (lf 19 pc (oGetR 5 0 22)) (nd 23 pc (lf 22 pc (oCst 4 23)) (lf 23 pc (oIAL 24)))) (nd 27 pc (nd 26 pc (lf 24 pc (oISt 4 26)) (lf 26 pc (oILd 2 27))) (nd 29 pc (lf 27 pc (oILd 4 29)) (lf 29 pc (oCst 5 30))))) (nd 39 pc (nd 35 pc (nd 33 pc (lf 30 pc (oCpLt 33 38)) (lf 33 pc (oILd 4 35))) (nd 38 pc (lf 35 pc (oGo 42)) (lf 38 pc (oCst 2 39)))) (nd 42 pc (nd 41 pc (lf 39 pc (oILd 4 41)) (lf 41 pc (oBin (fun x y => x * y) 42))) (nd 43 pc (lf 42 pc (oBin (fun x y => x + y) 43)) (lf 43 pc (oISt 5 45))))))) (nd 101 pc (nd 90 pc (nd 48 pc (nd 46 pc (lf 45 pc (oALd 0 46)) (nd 47 pc (lf 46 pc (oILd 1 47)) (lf 47 pc (oCst 0 48)))) (nd 88 pc (nd 51 pc (lf 48 pc (oCaV 3 5 S_X5_disputantIs 51)) (lf 51 pc (oSw [(1, 88), (2, 90), (3, 95), (4, 98), (5, 108), (6, 112)] 120))) (nd 89 pc (lf 88 pc (oILd 3 89)) (lf 89 pc (oIRet))))) (nd 95 pc (nd 93 pc (nd 91 pc (lf 90 pc (oILd 2 91)) (lf 91 pc (oILd 4 93))) (nd 94 pc (lf 93 pc (oBin (fun x y => x + y) 94)) (lf 94 pc (oIRet)))) (nd 98 pc (nd 97 pc (lf 95 pc (oILd 5 97)) (lf 97 pc (oIRet))) (nd 100 pc (lf 98 pc (oCst 99 100)) (lf 100 pc (oCst 2 101)))))) (nd 112 pc (nd 108 pc (nd 104 pc (nd 103 pc (lf 101 pc (oILd 5 103)) (lf 103 pc (oBin (fun x y => x * y) 104))) (nd 107 pc (lf 104 pc (oMin 107)) (lf 107 pc (oIRet)))) (nd 110 pc (nd 109 pc (lf 108 pc (oILd 2 109)) (lf 109 pc (oCst 2 110))) (nd 111 pc (lf 110 pc (oDiv (fun x y => x / y) 111)) (lf 111 pc (oIRet))))) (nd 116 pc (nd 114 pc (nd 113 pc (lf 112 pc (oCst 0 113)) (lf 113 pc (oILd 3 114))) (nd 115 pc (lf 114 pc (oCst 5 115)) (lf 115 pc (oBin (fun x y => x - y) 116)))) (nd 120 pc (nd 119 pc (lf 116 pc (oMax 119)) (lf 119 pc (oIRet))) (nd 121 pc (lf 120 pc (oILd 2 121)) (lf 121 pc (oIRet)))))))
theorem ok_X5_presses {l : Launch} {G : Gm} : ∀ pc, OkU (TXm l G (rmD 3) 6 cX5_presses RX5) (RXm l G (rmD 3) 6 cX5_presses RX5 (some .int)) pc (P_X5_presses pc) := fun pc => ok_nd (ok_nd (ok_nd (ok_nd (ok_nd (ok_lf (ok_ALdn d_X5_presses_0 rfl rfl)) (ok_nd (ok_lf (ok_ILdn d_X5_presses_1 rfl rfl)) (ok_lf (ok_ICst d_X5_presses_2 (by decide) rfl)))) (ok_nd (ok_nd (ok_lf (ok_CaV su_X5_disputantIs (by decide) rfl d_X5_presses_3 q835 q837 z61 q6 q838 ⟨by decide +kernel, by decide +kernel, by decide +kernel⟩ ⟨by decide, by decide⟩ rfl)) (ok_lf (ok_IStn d_X5_presses_6 rfl rfl))) (ok_nd (ok_lf (ok_ILdn d_X5_presses_7 rfl rfl)) (ok_lf (ok_ALdn d_X5_presses_8 rfl rfl))))) (ok_nd (ok_nd (ok_nd (ok_lf (ok_ILdn d_X5_presses_9 rfl rfl)) (ok_lf (ok_ICst d_X5_presses_10 (by decide) rfl))) (ok_nd (ok_lf (ok_CaV su_X5_disputantIs (by decide) rfl d_X5_presses_11 q835 q837 z61 q6 q838 ⟨by decide +kernel, by decide +kernel, by decide +kernel⟩ ⟨by decide, by decide⟩ rfl)) (ok_lf (ok_ICst d_X5_presses_14 (by decide) rfl)))) (ok_nd (ok_nd (ok_lf (ok_idiv d_X5_presses_15 rfl)) (ok_lf (ok_iadd d_X5_presses_16 rfl))) (ok_nd (ok_lf (ok_IStn d_X5_presses_17 rfl rfl)) (ok_lf (ok_ALdn d_X5_presses_18 rfl rfl)))))) (ok_nd (ok_nd (ok_nd (ok_lf (ok_GetR (by decide) (by decide) rfl d_X5_presses_19 q703 rfl)) (ok_nd (ok_lf (ok_ICst d_X5_presses_22 (by decide) rfl)) (ok_lf (ok_IAL d_X5_presses_23 rfl)))) (ok_nd (ok_nd (ok_lf (ok_ISt d_X5_presses_24 rfl)) (ok_lf (ok_ILdn d_X5_presses_26 rfl rfl))) (ok_nd (ok_lf (ok_ILd d_X5_presses_27 rfl)) (ok_lf (ok_ICst d_X5_presses_29 (by decide) rfl))))) (ok_nd (ok_nd (ok_nd (ok_lf (ok_CpGe d_X5_presses_30 (by decide) rfl)) (ok_lf (ok_ILd d_X5_presses_33 rfl))) (ok_nd (ok_lf (ok_Go d_X5_presses_35 (by decide))) (ok_lf (ok_ICst d_X5_presses_38 (by decide) rfl)))) (ok_nd (ok_nd (ok_lf (ok_ILd d_X5_presses_39 rfl)) (ok_lf (ok_imul d_X5_presses_41 rfl))) (ok_nd (ok_lf (ok_iadd d_X5_presses_42 rfl)) (ok_lf (ok_ISt d_X5_presses_43 rfl))))))) (ok_nd (ok_nd (ok_nd (ok_nd (ok_lf (ok_ALdn d_X5_presses_45 rfl rfl)) (ok_nd (ok_lf (ok_ILdn d_X5_presses_46 rfl rfl)) (ok_lf (ok_ICst d_X5_presses_47 (by decide) rfl)))) (ok_nd (ok_nd (ok_lf (ok_CaV su_X5_disputantIs (by decide) rfl d_X5_presses_48 q835 q837 z61 q6 q838 ⟨by decide +kernel, by decide +kernel, by decide +kernel⟩ ⟨by decide, by decide⟩ rfl)) (ok_lf (ok_Tab d_X5_presses_51 (by decide) (by decide) (by decide) (by decide)))) (ok_nd (ok_lf (ok_ILdn d_X5_presses_88 rfl rfl)) (ok_lf (ok_IRet d_X5_presses_89))))) (ok_nd (ok_nd (ok_nd (ok_lf (ok_ILdn d_X5_presses_90 rfl rfl)) (ok_lf (ok_ILd d_X5_presses_91 rfl))) (ok_nd (ok_lf (ok_iadd d_X5_presses_93 rfl)) (ok_lf (ok_IRet d_X5_presses_94)))) (ok_nd (ok_nd (ok_lf (ok_ILd d_X5_presses_95 rfl)) (ok_lf (ok_IRet d_X5_presses_97))) (ok_nd (ok_lf (ok_BCst d_X5_presses_98 (by decide) rfl)) (ok_lf (ok_ICst d_X5_presses_100 (by decide) rfl)))))) (ok_nd (ok_nd (ok_nd (ok_nd (ok_lf (ok_ILd d_X5_presses_101 rfl)) (ok_lf (ok_imul d_X5_presses_103 rfl))) (ok_nd (ok_lf (ok_Min d_X5_presses_104 q839 q247 q7 q248 ⟨by decide, by decide⟩ rfl)) (ok_lf (ok_IRet d_X5_presses_107)))) (ok_nd (ok_nd (ok_lf (ok_ILdn d_X5_presses_108 rfl rfl)) (ok_lf (ok_ICst d_X5_presses_109 (by decide) rfl))) (ok_nd (ok_lf (ok_idiv d_X5_presses_110 rfl)) (ok_lf (ok_IRet d_X5_presses_111))))) (ok_nd (ok_nd (ok_nd (ok_lf (ok_ICst d_X5_presses_112 (by decide) rfl)) (ok_lf (ok_ILdn d_X5_presses_113 rfl rfl))) (ok_nd (ok_lf (ok_ICst d_X5_presses_114 (by decide) rfl)) (ok_lf (ok_isub d_X5_presses_115 rfl)))) (ok_nd (ok_nd (ok_lf (ok_Max d_X5_presses_116 q840 q240 q7 q241 ⟨by decide, by decide⟩ rfl)) (ok_lf (ok_IRet d_X5_presses_119))) (ok_nd (ok_lf (ok_ILdn d_X5_presses_120 rfl rfl)) (ok_lf (ok_IRet d_X5_presses_121)))))))
noncomputable def S_X5_presses : Sem := lockS (inl P_X5_presses 63 6) 0
theorem su_X5_presses {l : Launch} {G : Gm} : SemU l G yX5_presses (wsOf yX5_presses cX5_presses 6 (some .int)) 3 S_X5_presses := sem_lock (sem_inl 63 (by decide +kernel) rfl ok_X5_presses)
theorem d_X5_jolts_0 : decode cX5_jolts 0 = .ok (.aload_n 0, 1) := by decide +kernel
theorem d_X5_jolts_1 : decode cX5_jolts 1 = .ok (.iload_n 1, 1) := by decide +kernel
theorem d_X5_jolts_2 : decode cX5_jolts 2 = .ok (.iconst 2, 1) := by decide +kernel
theorem d_X5_jolts_3 : decode cX5_jolts 3 = .ok (.invokevirtual 95, 3) := by decide +kernel
theorem d_X5_jolts_6 : decode cX5_jolts 6 = .ok (.bipush 10, 2) := by decide +kernel
theorem d_X5_jolts_8 : decode cX5_jolts 8 = .ok (.idiv, 1) := by decide +kernel
theorem d_X5_jolts_9 : decode cX5_jolts 9 = .ok (.istore_n 2, 1) := by decide +kernel
theorem d_X5_jolts_10 : decode cX5_jolts 10 = .ok (.aload_n 0, 1) := by decide +kernel
theorem d_X5_jolts_11 : decode cX5_jolts 11 = .ok (.iload_n 1, 1) := by decide +kernel
theorem d_X5_jolts_12 : decode cX5_jolts 12 = .ok (.iconst 0, 1) := by decide +kernel
theorem d_X5_jolts_13 : decode cX5_jolts 13 = .ok (.invokevirtual 95, 3) := by decide +kernel
theorem d_X5_jolts_16 : decode cX5_jolts 16 = .ok (.tableswitch 59 1 6 #[40, 44, 46, 46, 55, 40], 40) := by decide +kernel
theorem d_X5_jolts_56 : decode cX5_jolts 56 = .ok (.iload_n 2, 1) := by decide +kernel
theorem d_X5_jolts_57 : decode cX5_jolts 57 = .ok (.iconst 1, 1) := by decide +kernel
theorem d_X5_jolts_58 : decode cX5_jolts 58 = .ok (.iadd, 1) := by decide +kernel
theorem d_X5_jolts_59 : decode cX5_jolts 59 = .ok (.ireturn, 1) := by decide +kernel
theorem d_X5_jolts_60 : decode cX5_jolts 60 = .ok (.iconst 0, 1) := by decide +kernel
theorem d_X5_jolts_61 : decode cX5_jolts 61 = .ok (.ireturn, 1) := by decide +kernel
theorem d_X5_jolts_62 : decode cX5_jolts 62 = .ok (.aload_n 0, 1) := by decide +kernel
theorem d_X5_jolts_63 : decode cX5_jolts 63 = .ok (.getfield 9, 3) := by decide +kernel
theorem d_X5_jolts_66 : decode cX5_jolts 66 = .ok (.iconst 0, 1) := by decide +kernel
theorem d_X5_jolts_67 : decode cX5_jolts 67 = .ok (.iaload, 1) := by decide +kernel
theorem d_X5_jolts_68 : decode cX5_jolts 68 = .ok (.iconst 2, 1) := by decide +kernel
theorem d_X5_jolts_69 : decode cX5_jolts 69 = .ok (.irem, 1) := by decide +kernel
theorem d_X5_jolts_70 : decode cX5_jolts 70 = .ok (.ireturn, 1) := by decide +kernel
theorem d_X5_jolts_71 : decode cX5_jolts 71 = .ok (.iload_n 2, 1) := by decide +kernel
theorem d_X5_jolts_72 : decode cX5_jolts 72 = .ok (.iconst 3, 1) := by decide +kernel
theorem d_X5_jolts_73 : decode cX5_jolts 73 = .ok (.iadd, 1) := by decide +kernel
theorem d_X5_jolts_74 : decode cX5_jolts 74 = .ok (.ireturn, 1) := by decide +kernel
theorem d_X5_jolts_75 : decode cX5_jolts 75 = .ok (.iload_n 2, 1) := by decide +kernel
theorem d_X5_jolts_76 : decode cX5_jolts 76 = .ok (.ireturn, 1) := by decide +kernel
noncomputable def P_X5_jolts : Nat → Op := fun pc => nd 59 pc (nd 10 pc (nd 3 pc (nd 1 pc (lf 0 pc (oALd 0 1)) (nd 2 pc (lf 1 pc (oILd 1 2)) (lf 2 pc (oCst 2 3)))) (nd 8 pc (nd 6 pc (lf 3 pc (oCaV 3 5 S_X5_disputantIs 6)) (lf 6 pc (oCst 10 8))) (nd 9 pc (lf 8 pc (oDiv (fun x y => x / y) 9)) (lf 9 pc (oISt 2 10))))) (nd 16 pc (nd 12 pc (nd 11 pc (lf 10 pc (oALd 0 11)) (lf 11 pc (oILd 1 12))) (nd 13 pc (lf 12 pc (oCst 0 13)) (lf 13 pc (oCaV 3 5 S_X5_disputantIs 16)))) (nd 57 pc (nd 56 pc (lf 16 pc (oSw [(1, 56), (2, 60), (3, 62), (4, 62), (5, 71), (6, 56)] 75)) (lf 56 pc (oILd 2 57))) (nd 58 pc (lf 57 pc (oCst 1 58)) (lf 58 pc (oBin (fun x y => x + y) 59)))))) (nd 69 pc (nd 63 pc (nd 61 pc (nd 60 pc (lf 59 pc (oIRet)) (lf 60 pc (oCst 0 61))) (nd 62 pc (lf 61 pc (oIRet)) (lf 62 pc (oALd 0 63)))) (nd 67 pc (nd 66 pc (lf 63 pc (oGetR 5 0 66)) (lf 66 pc (oCst 0 67))) (nd 68 pc (lf 67 pc (oIAL 68)) (lf 68 pc (oCst 2 69))))) (nd 73 pc (nd 71 pc (nd 70 pc (lf 69 pc (oDiv (fun x y => x % y) 70)) (lf 70 pc (oIRet))) (nd 72 pc (lf 71 pc (oILd 2 72)) (lf 72 pc (oCst 3 73)))) (nd 75 pc (nd 74 pc (lf 73 pc (oBin (fun x y => x + y) 74)) (lf 74 pc (oIRet))) (nd 76 pc (lf 75 pc (oILd 2 76)) (lf 76 pc (oIRet))))))
theorem ok_X5_jolts {l : Launch} {G : Gm} : ∀ pc, OkU (TXm l G (rmD 3) 3 cX5_jolts RX5) (RXm l G (rmD 3) 3 cX5_jolts RX5 (some .int)) pc (P_X5_jolts pc) := fun pc => ok_nd (ok_nd (ok_nd (ok_nd (ok_lf (ok_ALdn d_X5_jolts_0 rfl rfl)) (ok_nd (ok_lf (ok_ILdn d_X5_jolts_1 rfl rfl)) (ok_lf (ok_ICst d_X5_jolts_2 (by decide) rfl)))) (ok_nd (ok_nd (ok_lf (ok_CaV su_X5_disputantIs (by decide) rfl d_X5_jolts_3 q835 q837 z61 q6 q838 ⟨by decide +kernel, by decide +kernel, by decide +kernel⟩ ⟨by decide, by decide⟩ rfl)) (ok_lf (ok_BCst d_X5_jolts_6 (by decide) rfl))) (ok_nd (ok_lf (ok_idiv d_X5_jolts_8 rfl)) (ok_lf (ok_IStn d_X5_jolts_9 rfl rfl))))) (ok_nd (ok_nd (ok_nd (ok_lf (ok_ALdn d_X5_jolts_10 rfl rfl)) (ok_lf (ok_ILdn d_X5_jolts_11 rfl rfl))) (ok_nd (ok_lf (ok_ICst d_X5_jolts_12 (by decide) rfl)) (ok_lf (ok_CaV su_X5_disputantIs (by decide) rfl d_X5_jolts_13 q835 q837 z61 q6 q838 ⟨by decide +kernel, by decide +kernel, by decide +kernel⟩ ⟨by decide, by decide⟩ rfl)))) (ok_nd (ok_nd (ok_lf (ok_Tab d_X5_jolts_16 (by decide) (by decide) (by decide) (by decide))) (ok_lf (ok_ILdn d_X5_jolts_56 rfl rfl))) (ok_nd (ok_lf (ok_ICst d_X5_jolts_57 (by decide) rfl)) (ok_lf (ok_iadd d_X5_jolts_58 rfl)))))) (ok_nd (ok_nd (ok_nd (ok_nd (ok_lf (ok_IRet d_X5_jolts_59)) (ok_lf (ok_ICst d_X5_jolts_60 (by decide) rfl))) (ok_nd (ok_lf (ok_IRet d_X5_jolts_61)) (ok_lf (ok_ALdn d_X5_jolts_62 rfl rfl)))) (ok_nd (ok_nd (ok_lf (ok_GetR (by decide) (by decide) rfl d_X5_jolts_63 q703 rfl)) (ok_lf (ok_ICst d_X5_jolts_66 (by decide) rfl))) (ok_nd (ok_lf (ok_IAL d_X5_jolts_67 rfl)) (ok_lf (ok_ICst d_X5_jolts_68 (by decide) rfl))))) (ok_nd (ok_nd (ok_nd (ok_lf (ok_irem d_X5_jolts_69 rfl)) (ok_lf (ok_IRet d_X5_jolts_70))) (ok_nd (ok_lf (ok_ILdn d_X5_jolts_71 rfl rfl)) (ok_lf (ok_ICst d_X5_jolts_72 (by decide) rfl)))) (ok_nd (ok_nd (ok_lf (ok_iadd d_X5_jolts_73 rfl)) (ok_lf (ok_IRet d_X5_jolts_74))) (ok_nd (ok_lf (ok_ILdn d_X5_jolts_75 rfl rfl)) (ok_lf (ok_IRet d_X5_jolts_76))))))
noncomputable def S_X5_jolts : Sem := lockS (inl P_X5_jolts 33 3) 0
theorem su_X5_jolts {l : Launch} {G : Gm} : SemU l G yX5_jolts (wsOf yX5_jolts cX5_jolts 3 (some .int)) 3 S_X5_jolts := sem_lock (sem_inl 33 (by decide +kernel) rfl ok_X5_jolts)
theorem d_X5_grows_0 : decode cX5_grows 0 = .ok (.aload_n 0, 1) := by decide +kernel
theorem d_X5_grows_1 : decode cX5_grows 1 = .ok (.iload_n 1, 1) := by decide +kernel
theorem d_X5_grows_2 : decode cX5_grows 2 = .ok (.iconst 0, 1) := by decide +kernel
theorem d_X5_grows_3 : decode cX5_grows 3 = .ok (.invokevirtual 95, 3) := by decide +kernel
theorem d_X5_grows_6 : decode cX5_grows 6 = .ok (.tableswitch 48 1 6 #[38, 41, 43, 43, 45, 38], 38) := by decide +kernel
theorem d_X5_grows_44 : decode cX5_grows 44 = .ok (.bipush 12, 2) := by decide +kernel
theorem d_X5_grows_46 : decode cX5_grows 46 = .ok (.ireturn, 1) := by decide +kernel
theorem d_X5_grows_47 : decode cX5_grows 47 = .ok (.iconst 3, 1) := by decide +kernel
theorem d_X5_grows_48 : decode cX5_grows 48 = .ok (.ireturn, 1) := by decide +kernel
theorem d_X5_grows_49 : decode cX5_grows 49 = .ok (.iconst 0, 1) := by decide +kernel
theorem d_X5_grows_50 : decode cX5_grows 50 = .ok (.ireturn, 1) := by decide +kernel
theorem d_X5_grows_51 : decode cX5_grows 51 = .ok (.bipush 8, 2) := by decide +kernel
theorem d_X5_grows_53 : decode cX5_grows 53 = .ok (.ireturn, 1) := by decide +kernel
theorem d_X5_grows_54 : decode cX5_grows 54 = .ok (.bipush 6, 2) := by decide +kernel
theorem d_X5_grows_56 : decode cX5_grows 56 = .ok (.ireturn, 1) := by decide +kernel
noncomputable def P_X5_grows : Nat → Op := fun pc => nd 47 pc (nd 3 pc (nd 1 pc (lf 0 pc (oALd 0 1)) (nd 2 pc (lf 1 pc (oILd 1 2)) (lf 2 pc (oCst 0 3)))) (nd 44 pc (nd 6 pc (lf 3 pc (oCaV 3 5 S_X5_disputantIs 6)) (lf 6 pc (oSw [(1, 44), (2, 47), (3, 49), (4, 49), (5, 51), (6, 44)] 54))) (nd 46 pc (lf 44 pc (oCst 12 46)) (lf 46 pc (oIRet))))) (nd 51 pc (nd 49 pc (nd 48 pc (lf 47 pc (oCst 3 48)) (lf 48 pc (oIRet))) (nd 50 pc (lf 49 pc (oCst 0 50)) (lf 50 pc (oIRet)))) (nd 54 pc (nd 53 pc (lf 51 pc (oCst 8 53)) (lf 53 pc (oIRet))) (nd 56 pc (lf 54 pc (oCst 6 56)) (lf 56 pc (oIRet)))))
theorem ok_X5_grows {l : Launch} {G : Gm} : ∀ pc, OkU (TXm l G (rmD 3) 2 cX5_grows RX5) (RXm l G (rmD 3) 2 cX5_grows RX5 (some .int)) pc (P_X5_grows pc) := fun pc => ok_nd (ok_nd (ok_nd (ok_lf (ok_ALdn d_X5_grows_0 rfl rfl)) (ok_nd (ok_lf (ok_ILdn d_X5_grows_1 rfl rfl)) (ok_lf (ok_ICst d_X5_grows_2 (by decide) rfl)))) (ok_nd (ok_nd (ok_lf (ok_CaV su_X5_disputantIs (by decide) rfl d_X5_grows_3 q835 q837 z61 q6 q838 ⟨by decide +kernel, by decide +kernel, by decide +kernel⟩ ⟨by decide, by decide⟩ rfl)) (ok_lf (ok_Tab d_X5_grows_6 (by decide) (by decide) (by decide) (by decide)))) (ok_nd (ok_lf (ok_BCst d_X5_grows_44 (by decide) rfl)) (ok_lf (ok_IRet d_X5_grows_46))))) (ok_nd (ok_nd (ok_nd (ok_lf (ok_ICst d_X5_grows_47 (by decide) rfl)) (ok_lf (ok_IRet d_X5_grows_48))) (ok_nd (ok_lf (ok_ICst d_X5_grows_49 (by decide) rfl)) (ok_lf (ok_IRet d_X5_grows_50)))) (ok_nd (ok_nd (ok_lf (ok_BCst d_X5_grows_51 (by decide) rfl)) (ok_lf (ok_IRet d_X5_grows_53))) (ok_nd (ok_lf (ok_BCst d_X5_grows_54 (by decide) rfl)) (ok_lf (ok_IRet d_X5_grows_56)))))
noncomputable def S_X5_grows : Sem := lockS (inl P_X5_grows 17 2) 0
theorem su_X5_grows {l : Launch} {G : Gm} : SemU l G yX5_grows (wsOf yX5_grows cX5_grows 2 (some .int)) 3 S_X5_grows := sem_lock (sem_inl 17 (by decide +kernel) rfl ok_X5_grows)
theorem d_X5_learns_0 : decode cX5_learns 0 = .ok (.aload_n 0, 1) := by decide +kernel
theorem d_X5_learns_1 : decode cX5_learns 1 = .ok (.iload_n 1, 1) := by decide +kernel
theorem d_X5_learns_2 : decode cX5_learns 2 = .ok (.iconst 0, 1) := by decide +kernel
theorem d_X5_learns_3 : decode cX5_learns 3 = .ok (.invokevirtual 95, 3) := by decide +kernel
theorem d_X5_learns_6 : decode cX5_learns 6 = .ok (.lookupswitch 41 #[(1, 34), (5, 36), (6, 39)], 34) := by decide +kernel
theorem d_X5_learns_40 : decode cX5_learns 40 = .ok (.iconst 0, 1) := by decide +kernel
theorem d_X5_learns_41 : decode cX5_learns 41 = .ok (.ireturn, 1) := by decide +kernel
theorem d_X5_learns_42 : decode cX5_learns 42 = .ok (.bipush 7, 2) := by decide +kernel
theorem d_X5_learns_44 : decode cX5_learns 44 = .ok (.ireturn, 1) := by decide +kernel
theorem d_X5_learns_45 : decode cX5_learns 45 = .ok (.iconst 5, 1) := by decide +kernel
theorem d_X5_learns_46 : decode cX5_learns 46 = .ok (.ireturn, 1) := by decide +kernel
theorem d_X5_learns_47 : decode cX5_learns 47 = .ok (.iconst 3, 1) := by decide +kernel
theorem d_X5_learns_48 : decode cX5_learns 48 = .ok (.ireturn, 1) := by decide +kernel
noncomputable def P_X5_learns : Nat → Op := fun pc => nd 41 pc (nd 3 pc (nd 1 pc (lf 0 pc (oALd 0 1)) (nd 2 pc (lf 1 pc (oILd 1 2)) (lf 2 pc (oCst 0 3)))) (nd 6 pc (lf 3 pc (oCaV 3 5 S_X5_disputantIs 6)) (nd 40 pc (lf 6 pc (oSw [(1, 40), (5, 42), (6, 45)] 47)) (lf 40 pc (oCst 0 41))))) (nd 45 pc (nd 42 pc (lf 41 pc (oIRet)) (nd 44 pc (lf 42 pc (oCst 7 44)) (lf 44 pc (oIRet)))) (nd 47 pc (nd 46 pc (lf 45 pc (oCst 5 46)) (lf 46 pc (oIRet))) (nd 48 pc (lf 47 pc (oCst 3 48)) (lf 48 pc (oIRet)))))
theorem ok_X5_learns {l : Launch} {G : Gm} : ∀ pc, OkU (TXm l G (rmD 3) 2 cX5_learns RX5) (RXm l G (rmD 3) 2 cX5_learns RX5 (some .int)) pc (P_X5_learns pc) := fun pc => ok_nd (ok_nd (ok_nd (ok_lf (ok_ALdn d_X5_learns_0 rfl rfl)) (ok_nd (ok_lf (ok_ILdn d_X5_learns_1 rfl rfl)) (ok_lf (ok_ICst d_X5_learns_2 (by decide) rfl)))) (ok_nd (ok_lf (ok_CaV su_X5_disputantIs (by decide) rfl d_X5_learns_3 q835 q837 z61 q6 q838 ⟨by decide +kernel, by decide +kernel, by decide +kernel⟩ ⟨by decide, by decide⟩ rfl)) (ok_nd (ok_lf (ok_Look d_X5_learns_6 (by decide) (by decide) (by decide))) (ok_lf (ok_ICst d_X5_learns_40 (by decide) rfl))))) (ok_nd (ok_nd (ok_lf (ok_IRet d_X5_learns_41)) (ok_nd (ok_lf (ok_BCst d_X5_learns_42 (by decide) rfl)) (ok_lf (ok_IRet d_X5_learns_44)))) (ok_nd (ok_nd (ok_lf (ok_ICst d_X5_learns_45 (by decide) rfl)) (ok_lf (ok_IRet d_X5_learns_46))) (ok_nd (ok_lf (ok_ICst d_X5_learns_47 (by decide) rfl)) (ok_lf (ok_IRet d_X5_learns_48)))))
noncomputable def S_X5_learns : Sem := lockS (inl P_X5_learns 15 2) 0
theorem su_X5_learns {l : Launch} {G : Gm} : SemU l G yX5_learns (wsOf yX5_learns cX5_learns 2 (some .int)) 3 S_X5_learns := sem_lock (sem_inl 15 (by decide +kernel) rfl ok_X5_learns)
theorem d_X5_cools_0 : decode cX5_cools 0 = .ok (.aload_n 0, 1) := by decide +kernel
theorem d_X5_cools_1 : decode cX5_cools 1 = .ok (.iload_n 1, 1) := by decide +kernel
theorem d_X5_cools_2 : decode cX5_cools 2 = .ok (.iconst 0, 1) := by decide +kernel
theorem d_X5_cools_3 : decode cX5_cools 3 = .ok (.invokevirtual 95, 3) := by decide +kernel
theorem d_X5_cools_6 : decode cX5_cools 6 = .ok (.lookupswitch 38 #[(0, 34), (1, 34), (5, 36)], 34) := by decide +kernel
theorem d_X5_cools_40 : decode cX5_cools 40 = .ok (.iconst 1, 1) := by decide +kernel
theorem d_X5_cools_41 : decode cX5_cools 41 = .ok (.ireturn, 1) := by decide +kernel
theorem d_X5_cools_42 : decode cX5_cools 42 = .ok (.iconst 5, 1) := by decide +kernel
theorem d_X5_cools_43 : decode cX5_cools 43 = .ok (.ireturn, 1) := by decide +kernel
theorem d_X5_cools_44 : decode cX5_cools 44 = .ok (.iconst 2, 1) := by decide +kernel
theorem d_X5_cools_45 : decode cX5_cools 45 = .ok (.ireturn, 1) := by decide +kernel
noncomputable def P_X5_cools : Nat → Op := fun pc => nd 40 pc (nd 2 pc (nd 1 pc (lf 0 pc (oALd 0 1)) (lf 1 pc (oILd 1 2))) (nd 3 pc (lf 2 pc (oCst 0 3)) (nd 6 pc (lf 3 pc (oCaV 3 5 S_X5_disputantIs 6)) (lf 6 pc (oSw [(0, 40), (1, 40), (5, 42)] 44))))) (nd 43 pc (nd 41 pc (lf 40 pc (oCst 1 41)) (nd 42 pc (lf 41 pc (oIRet)) (lf 42 pc (oCst 5 43)))) (nd 44 pc (lf 43 pc (oIRet)) (nd 45 pc (lf 44 pc (oCst 2 45)) (lf 45 pc (oIRet)))))
theorem ok_X5_cools {l : Launch} {G : Gm} : ∀ pc, OkU (TXm l G (rmD 3) 2 cX5_cools RX5) (RXm l G (rmD 3) 2 cX5_cools RX5 (some .int)) pc (P_X5_cools pc) := fun pc => ok_nd (ok_nd (ok_nd (ok_lf (ok_ALdn d_X5_cools_0 rfl rfl)) (ok_lf (ok_ILdn d_X5_cools_1 rfl rfl))) (ok_nd (ok_lf (ok_ICst d_X5_cools_2 (by decide) rfl)) (ok_nd (ok_lf (ok_CaV su_X5_disputantIs (by decide) rfl d_X5_cools_3 q835 q837 z61 q6 q838 ⟨by decide +kernel, by decide +kernel, by decide +kernel⟩ ⟨by decide, by decide⟩ rfl)) (ok_lf (ok_Look d_X5_cools_6 (by decide) (by decide) (by decide)))))) (ok_nd (ok_nd (ok_lf (ok_ICst d_X5_cools_40 (by decide) rfl)) (ok_nd (ok_lf (ok_IRet d_X5_cools_41)) (ok_lf (ok_ICst d_X5_cools_42 (by decide) rfl)))) (ok_nd (ok_lf (ok_IRet d_X5_cools_43)) (ok_nd (ok_lf (ok_ICst d_X5_cools_44 (by decide) rfl)) (ok_lf (ok_IRet d_X5_cools_45)))))
noncomputable def S_X5_cools : Sem := lockS (inl P_X5_cools 13 2) 0
theorem su_X5_cools {l : Launch} {G : Gm} : SemU l G yX5_cools (wsOf yX5_cools cX5_cools 2 (some .int)) 3 S_X5_cools := sem_lock (sem_inl 13 (by decide +kernel) rfl ok_X5_cools)
theorem d_X5_told_0 : decode cX5_told 0 = .ok (.iload_n 2, 1) := by decide +kernel
theorem d_X5_told_1 : decode cX5_told 1 = .ok (.tableswitch 65 6 10 #[35, 41, 47, 53, 59], 35) := by decide +kernel
theorem d_X5_told_36 : decode cX5_told 36 = .ok (.aload_n 0, 1) := by decide +kernel
theorem d_X5_told_37 : decode cX5_told 37 = .ok (.iload_n 1, 1) := by decide +kernel
theorem d_X5_told_38 : decode cX5_told 38 = .ok (.invokevirtual 106, 3) := by decide +kernel
theorem d_X5_told_41 : decode cX5_told 41 = .ok (.ireturn, 1) := by decide +kernel
theorem d_X5_told_42 : decode cX5_told 42 = .ok (.aload_n 0, 1) := by decide +kernel
theorem d_X5_told_43 : decode cX5_told 43 = .ok (.iload_n 1, 1) := by decide +kernel
theorem d_X5_told_44 : decode cX5_told 44 = .ok (.invokevirtual 109, 3) := by decide +kernel
theorem d_X5_told_47 : decode cX5_told 47 = .ok (.ireturn, 1) := by decide +kernel
theorem d_X5_told_48 : decode cX5_told 48 = .ok (.aload_n 0, 1) := by decide +kernel
theorem d_X5_told_49 : decode cX5_told 49 = .ok (.iload_n 1, 1) := by decide +kernel
theorem d_X5_told_50 : decode cX5_told 50 = .ok (.invokevirtual 112, 3) := by decide +kernel
theorem d_X5_told_53 : decode cX5_told 53 = .ok (.ireturn, 1) := by decide +kernel
theorem d_X5_told_54 : decode cX5_told 54 = .ok (.aload_n 0, 1) := by decide +kernel
theorem d_X5_told_55 : decode cX5_told 55 = .ok (.iload_n 1, 1) := by decide +kernel
theorem d_X5_told_56 : decode cX5_told 56 = .ok (.invokevirtual 115, 3) := by decide +kernel
theorem d_X5_told_59 : decode cX5_told 59 = .ok (.ireturn, 1) := by decide +kernel
theorem d_X5_told_60 : decode cX5_told 60 = .ok (.aload_n 0, 1) := by decide +kernel
theorem d_X5_told_61 : decode cX5_told 61 = .ok (.iload_n 1, 1) := by decide +kernel
theorem d_X5_told_62 : decode cX5_told 62 = .ok (.invokevirtual 118, 3) := by decide +kernel
theorem d_X5_told_65 : decode cX5_told 65 = .ok (.ireturn, 1) := by decide +kernel
theorem d_X5_told_66 : decode cX5_told 66 = .ok (.aload_n 0, 1) := by decide +kernel
theorem d_X5_told_67 : decode cX5_told 67 = .ok (.iload_n 1, 1) := by decide +kernel
theorem d_X5_told_68 : decode cX5_told 68 = .ok (.iload_n 2, 1) := by decide +kernel
theorem d_X5_told_69 : decode cX5_told 69 = .ok (.invokevirtual 95, 3) := by decide +kernel
theorem d_X5_told_72 : decode cX5_told 72 = .ok (.ireturn, 1) := by decide +kernel
noncomputable def P_X5_told : Nat → Op := fun pc => nd 53 pc (nd 42 pc (nd 37 pc (nd 1 pc (lf 0 pc (oILd 2 1)) (nd 36 pc (lf 1 pc (oSw [(6, 36), (7, 42), (8, 48), (9, 54), (10, 60)] 66)) (lf 36 pc (oALd 0 37)))) (nd 38 pc (lf 37 pc (oILd 1 38)) (nd 41 pc (lf 38 pc (oCaV 2 5 S_X5_presses 41)) (lf 41 pc (oIRet))))) (nd 47 pc (nd 43 pc (lf 42 pc (oALd 0 43)) (nd 44 pc (lf 43 pc (oILd 1 44)) (lf 44 pc (oCaV 2 5 S_X5_jolts 47)))) (nd 49 pc (nd 48 pc (lf 47 pc (oIRet)) (lf 48 pc (oALd 0 49))) (nd 50 pc (lf 49 pc (oILd 1 50)) (lf 50 pc (oCaV 2 5 S_X5_grows 53)))))) (nd 62 pc (nd 56 pc (nd 54 pc (lf 53 pc (oIRet)) (nd 55 pc (lf 54 pc (oALd 0 55)) (lf 55 pc (oILd 1 56)))) (nd 60 pc (nd 59 pc (lf 56 pc (oCaV 2 5 S_X5_learns 59)) (lf 59 pc (oIRet))) (nd 61 pc (lf 60 pc (oALd 0 61)) (lf 61 pc (oILd 1 62))))) (nd 67 pc (nd 65 pc (lf 62 pc (oCaV 2 5 S_X5_cools 65)) (nd 66 pc (lf 65 pc (oIRet)) (lf 66 pc (oALd 0 67)))) (nd 69 pc (nd 68 pc (lf 67 pc (oILd 1 68)) (lf 68 pc (oILd 2 69))) (nd 72 pc (lf 69 pc (oCaV 3 5 S_X5_disputantIs 72)) (lf 72 pc (oIRet))))))
theorem ok_X5_told {l : Launch} {G : Gm} : ∀ pc, OkU (TXm l G (rmD 4) 3 cX5_told RX5) (RXm l G (rmD 4) 3 cX5_told RX5 (some .int)) pc (P_X5_told pc) := fun pc => ok_nd (ok_nd (ok_nd (ok_nd (ok_lf (ok_ILdn d_X5_told_0 rfl rfl)) (ok_nd (ok_lf (ok_Tab d_X5_told_1 (by decide) (by decide) (by decide) (by decide))) (ok_lf (ok_ALdn d_X5_told_36 rfl rfl)))) (ok_nd (ok_lf (ok_ILdn d_X5_told_37 rfl rfl)) (ok_nd (ok_lf (ok_CaV su_X5_presses (by decide) rfl d_X5_told_38 q831 q833 z60 q6 q834 ⟨by decide +kernel, by decide +kernel, by decide +kernel⟩ ⟨by decide, by decide⟩ rfl)) (ok_lf (ok_IRet d_X5_told_41))))) (ok_nd (ok_nd (ok_lf (ok_ALdn d_X5_told_42 rfl rfl)) (ok_nd (ok_lf (ok_ILdn d_X5_told_43 rfl rfl)) (ok_lf (ok_CaV su_X5_jolts (by decide) rfl d_X5_told_44 q841 q843 z62 q6 q844 ⟨by decide +kernel, by decide +kernel, by decide +kernel⟩ ⟨by decide, by decide⟩ rfl)))) (ok_nd (ok_nd (ok_lf (ok_IRet d_X5_told_47)) (ok_lf (ok_ALdn d_X5_told_48 rfl rfl))) (ok_nd (ok_lf (ok_ILdn d_X5_told_49 rfl rfl)) (ok_lf (ok_CaV su_X5_grows (by decide) rfl d_X5_told_50 q845 q847 z63 q6 q848 ⟨by decide +kernel, by decide +kernel, by decide +kernel⟩ ⟨by decide, by decide⟩ rfl)))))) (ok_nd (ok_nd (ok_nd (ok_lf (ok_IRet d_X5_told_53)) (ok_nd (ok_lf (ok_ALdn d_X5_told_54 rfl rfl)) (ok_lf (ok_ILdn d_X5_told_55 rfl rfl)))) (ok_nd (ok_nd (ok_lf (ok_CaV su_X5_learns (by decide) rfl d_X5_told_56 q849 q851 z64 q6 q852 ⟨by decide +kernel, by decide +kernel, by decide +kernel⟩ ⟨by decide, by decide⟩ rfl)) (ok_lf (ok_IRet d_X5_told_59))) (ok_nd (ok_lf (ok_ALdn d_X5_told_60 rfl rfl)) (ok_lf (ok_ILdn d_X5_told_61 rfl rfl))))) (ok_nd (ok_nd (ok_lf (ok_CaV su_X5_cools (by decide) rfl d_X5_told_62 q853 q855 z65 q6 q856 ⟨by decide +kernel, by decide +kernel, by decide +kernel⟩ ⟨by decide, by decide⟩ rfl)) (ok_nd (ok_lf (ok_IRet d_X5_told_65)) (ok_lf (ok_ALdn d_X5_told_66 rfl rfl)))) (ok_nd (ok_nd (ok_lf (ok_ILdn d_X5_told_67 rfl rfl)) (ok_lf (ok_ILdn d_X5_told_68 rfl rfl))) (ok_nd (ok_lf (ok_CaV su_X5_disputantIs (by decide) rfl d_X5_told_69 q835 q837 z61 q6 q838 ⟨by decide +kernel, by decide +kernel, by decide +kernel⟩ ⟨by decide, by decide⟩ rfl)) (ok_lf (ok_IRet d_X5_told_72))))))
noncomputable def S_X5_told : Sem := lockS (inl P_X5_told 29 3) 0
theorem su_X5_told {l : Launch} {G : Gm} : SemU l G yX5_told (wsOf yX5_told cX5_told 3 (some .int)) 4 S_X5_told := sem_lock (sem_inl 29 (by decide +kernel) rfl ok_X5_told)
theorem d_X5_of_0 : decode cX5_of 0 = .ok (.aload_n 0, 1) := by decide +kernel
theorem d_X5_of_1 : decode cX5_of 1 = .ok (.iload_n 1, 1) := by decide +kernel
theorem d_X5_of_2 : decode cX5_of 2 = .ok (.invokevirtual 121, 3) := by decide +kernel
theorem d_X5_of_5 : decode cX5_of 5 = .ok (.ifCond .eq 22, 3) := by decide +kernel
theorem d_X5_of_8 : decode cX5_of 8 = .ok (.iload_n 2, 1) := by decide +kernel
theorem d_X5_of_9 : decode cX5_of 9 = .ok (.iconst 0, 1) := by decide +kernel
theorem d_X5_of_10 : decode cX5_of 10 = .ok (.bipush 10, 2) := by decide +kernel
theorem d_X5_of_12 : decode cX5_of 12 = .ok (.invokestatic 70, 3) := by decide +kernel
theorem d_X5_of_15 : decode cX5_of 15 = .ok (.ifCond .eq 12, 3) := by decide +kernel
theorem d_X5_of_18 : decode cX5_of 18 = .ok (.aload_n 0, 1) := by decide +kernel
theorem d_X5_of_19 : decode cX5_of 19 = .ok (.iload_n 1, 1) := by decide +kernel
theorem d_X5_of_20 : decode cX5_of 20 = .ok (.iload_n 2, 1) := by decide +kernel
theorem d_X5_of_21 : decode cX5_of 21 = .ok (.invokevirtual 124, 3) := by decide +kernel
theorem d_X5_of_24 : decode cX5_of 24 = .ok (.goto 9, 3) := by decide +kernel
theorem d_X5_of_27 : decode cX5_of 27 = .ok (.aload_n 0, 1) := by decide +kernel
theorem d_X5_of_28 : decode cX5_of 28 = .ok (.ldc 60, 2) := by decide +kernel
theorem d_X5_of_30 : decode cX5_of 30 = .ok (.invokevirtual 66, 3) := by decide +kernel
theorem d_X5_of_33 : decode cX5_of 33 = .ok (.ireturn, 1) := by decide +kernel
noncomputable def P_X5_of : Nat → Op := fun pc => nd 18 pc (nd 8 pc (nd 2 pc (nd 1 pc (lf 0 pc (oALd 0 1)) (lf 1 pc (oILd 1 2))) (nd 5 pc (lf 2 pc (oCaV 2 5 S_X5_isDisputant 5)) (lf 5 pc (oIfEq 27 8)))) (nd 10 pc (nd 9 pc (lf 8 pc (oILd 2 9)) (lf 9 pc (oCst 0 10))) (nd 12 pc (lf 10 pc (oCst 10 12)) (nd 15 pc (lf 12 pc (oCaS 3 S_X5_within 15)) (lf 15 pc (oIfEq 27 18)))))) (nd 24 pc (nd 20 pc (nd 19 pc (lf 18 pc (oALd 0 19)) (lf 19 pc (oILd 1 20))) (nd 21 pc (lf 20 pc (oILd 2 21)) (lf 21 pc (oCaV 3 5 S_X5_told 24)))) (nd 28 pc (nd 27 pc (lf 24 pc (oGo 33)) (lf 27 pc (oALd 0 28))) (nd 30 pc (lf 28 pc (oCst (-1000001) 30)) (nd 33 pc (lf 30 pc (oCaV 2 5 S_X5_finding 33)) (lf 33 pc (oIRet))))))
theorem ok_X5_of {l : Launch} {G : Gm} : ∀ pc, OkU (TXm l G (rmD 5) 3 cX5_of RX5) (RXm l G (rmD 5) 3 cX5_of RX5 (some .int)) pc (P_X5_of pc) := fun pc => ok_nd (ok_nd (ok_nd (ok_nd (ok_lf (ok_ALdn d_X5_of_0 rfl rfl)) (ok_lf (ok_ILdn d_X5_of_1 rfl rfl))) (ok_nd (ok_lf (ok_CaV su_X5_isDisputant (by decide) rfl d_X5_of_2 q823 q825 z58 q6 q826 ⟨by decide +kernel, by decide +kernel, by decide +kernel⟩ ⟨by decide, by decide⟩ rfl)) (ok_lf (ok_IfEq d_X5_of_5 (by decide) rfl)))) (ok_nd (ok_nd (ok_lf (ok_ILdn d_X5_of_8 rfl rfl)) (ok_lf (ok_ICst d_X5_of_9 (by decide) rfl))) (ok_nd (ok_lf (ok_BCst d_X5_of_10 (by decide) rfl)) (ok_nd (ok_lf (ok_CaS su_X5_within d_X5_of_12 q774 q775 q6 q776 ⟨by decide +kernel, by decide +kernel, by decide +kernel⟩ ⟨by decide, by decide⟩ rfl)) (ok_lf (ok_IfEq d_X5_of_15 (by decide) rfl)))))) (ok_nd (ok_nd (ok_nd (ok_lf (ok_ALdn d_X5_of_18 rfl rfl)) (ok_lf (ok_ILdn d_X5_of_19 rfl rfl))) (ok_nd (ok_lf (ok_ILdn d_X5_of_20 rfl rfl)) (ok_lf (ok_CaV su_X5_told (by decide) rfl d_X5_of_21 q827 q829 z59 q6 q830 ⟨by decide +kernel, by decide +kernel, by decide +kernel⟩ ⟨by decide, by decide⟩ rfl)))) (ok_nd (ok_nd (ok_lf (ok_Go d_X5_of_24 (by decide))) (ok_lf (ok_ALdn d_X5_of_27 rfl rfl))) (ok_nd (ok_lf (ok_Ldc d_X5_of_28 q781 rfl)) (ok_nd (ok_lf (ok_CaV su_X5_finding (by decide) rfl d_X5_of_30 q782 q784 z56 q6 q785 ⟨by decide +kernel, by decide +kernel, by decide +kernel⟩ ⟨by decide, by decide⟩ rfl)) (ok_lf (ok_IRet d_X5_of_33))))))
noncomputable def S_X5_of : Sem := lockS (inl P_X5_of 20 3) 0
theorem su_X5_of {l : Launch} {G : Gm} : SemU l G yX5_of (wsOf yX5_of cX5_of 3 (some .int)) 5 S_X5_of := sem_lock (sem_inl 20 (by decide +kernel) rfl ok_X5_of)
theorem d_X5_isField_0 : decode cX5_isField 0 = .ok (.iload_n 0, 1) := by decide +kernel
theorem d_X5_isField_1 : decode cX5_isField 1 = .ok (.tableswitch 68 0 5 #[39, 44, 44, 52, 52, 61], 39) := by decide +kernel
theorem d_X5_isField_40 : decode cX5_isField 40 = .ok (.iload_n 1, 1) := by decide +kernel
theorem d_X5_isField_41 : decode cX5_isField 41 = .ok (.invokestatic 88, 3) := by decide +kernel
theorem d_X5_isField_44 : decode cX5_isField 44 = .ok (.ireturn, 1) := by decide +kernel
theorem d_X5_isField_45 : decode cX5_isField 45 = .ok (.iload_n 1, 1) := by decide +kernel
theorem d_X5_isField_46 : decode cX5_isField 46 = .ok (.iconst 0, 1) := by decide +kernel
theorem d_X5_isField_47 : decode cX5_isField 47 = .ok (.bipush 99, 2) := by decide +kernel
theorem d_X5_isField_49 : decode cX5_isField 49 = .ok (.invokestatic 70, 3) := by decide +kernel
theorem d_X5_isField_52 : decode cX5_isField 52 = .ok (.ireturn, 1) := by decide +kernel
theorem d_X5_isField_53 : decode cX5_isField 53 = .ok (.iload_n 1, 1) := by decide +kernel
theorem d_X5_isField_54 : decode cX5_isField 54 = .ok (.iconst 0, 1) := by decide +kernel
theorem d_X5_isField_55 : decode cX5_isField 55 = .ok (.sipush 9999, 3) := by decide +kernel
theorem d_X5_isField_58 : decode cX5_isField 58 = .ok (.invokestatic 70, 3) := by decide +kernel
theorem d_X5_isField_61 : decode cX5_isField 61 = .ok (.ireturn, 1) := by decide +kernel
theorem d_X5_isField_62 : decode cX5_isField 62 = .ok (.iload_n 1, 1) := by decide +kernel
theorem d_X5_isField_63 : decode cX5_isField 63 = .ok (.iconst 0, 1) := by decide +kernel
theorem d_X5_isField_64 : decode cX5_isField 64 = .ok (.iconst 1, 1) := by decide +kernel
theorem d_X5_isField_65 : decode cX5_isField 65 = .ok (.invokestatic 70, 3) := by decide +kernel
theorem d_X5_isField_68 : decode cX5_isField 68 = .ok (.ireturn, 1) := by decide +kernel
theorem d_X5_isField_69 : decode cX5_isField 69 = .ok (.iconst 0, 1) := by decide +kernel
theorem d_X5_isField_70 : decode cX5_isField 70 = .ok (.ireturn, 1) := by decide +kernel
noncomputable def P_X5_isField : Nat → Op := fun pc => nd 54 pc (nd 45 pc (nd 40 pc (nd 1 pc (lf 0 pc (oILd 0 1)) (lf 1 pc (oSw [(0, 40), (1, 45), (2, 45), (3, 53), (4, 53), (5, 62)] 69))) (nd 41 pc (lf 40 pc (oILd 1 41)) (nd 44 pc (lf 41 pc (oCaS 1 S_X5_isKind 44)) (lf 44 pc (oZRet))))) (nd 49 pc (nd 46 pc (lf 45 pc (oILd 1 46)) (nd 47 pc (lf 46 pc (oCst 0 47)) (lf 47 pc (oCst 99 49)))) (nd 52 pc (lf 49 pc (oCaS 3 S_X5_within 52)) (nd 53 pc (lf 52 pc (oZRet)) (lf 53 pc (oILd 1 54)))))) (nd 63 pc (nd 58 pc (nd 55 pc (lf 54 pc (oCst 0 55)) (lf 55 pc (oCst 9999 58))) (nd 61 pc (lf 58 pc (oCaS 3 S_X5_within 61)) (nd 62 pc (lf 61 pc (oZRet)) (lf 62 pc (oILd 1 63))))) (nd 68 pc (nd 64 pc (lf 63 pc (oCst 0 64)) (nd 65 pc (lf 64 pc (oCst 1 65)) (lf 65 pc (oCaS 3 S_X5_within 68)))) (nd 69 pc (lf 68 pc (oZRet)) (nd 70 pc (lf 69 pc (oCst 0 70)) (lf 70 pc (oZRet))))))
theorem ok_X5_isField {l : Launch} {G : Gm} : ∀ pc, OkU (TXm l G (rmD 3) 2 cX5_isField RX5) (RXm l G (rmD 3) 2 cX5_isField RX5 (some .boolean)) pc (P_X5_isField pc) := fun pc => ok_nd (ok_nd (ok_nd (ok_nd (ok_lf (ok_ILdn d_X5_isField_0 rfl rfl)) (ok_lf (ok_Tab d_X5_isField_1 (by decide) (by decide) (by decide) (by decide)))) (ok_nd (ok_lf (ok_ILdn d_X5_isField_40 rfl rfl)) (ok_nd (ok_lf (ok_CaS su_X5_isKind d_X5_isField_41 q808 q809 q6 q810 ⟨by decide +kernel, by decide +kernel, by decide +kernel⟩ ⟨by decide, by decide⟩ rfl)) (ok_lf (ok_ZRet d_X5_isField_44))))) (ok_nd (ok_nd (ok_lf (ok_ILdn d_X5_isField_45 rfl rfl)) (ok_nd (ok_lf (ok_ICst d_X5_isField_46 (by decide) rfl)) (ok_lf (ok_BCst d_X5_isField_47 (by decide) rfl)))) (ok_nd (ok_lf (ok_CaS su_X5_within d_X5_isField_49 q774 q775 q6 q776 ⟨by decide +kernel, by decide +kernel, by decide +kernel⟩ ⟨by decide, by decide⟩ rfl)) (ok_nd (ok_lf (ok_ZRet d_X5_isField_52)) (ok_lf (ok_ILdn d_X5_isField_53 rfl rfl)))))) (ok_nd (ok_nd (ok_nd (ok_lf (ok_ICst d_X5_isField_54 (by decide) rfl)) (ok_lf (ok_SCst d_X5_isField_55 (by decide) rfl))) (ok_nd (ok_lf (ok_CaS su_X5_within d_X5_isField_58 q774 q775 q6 q776 ⟨by decide +kernel, by decide +kernel, by decide +kernel⟩ ⟨by decide, by decide⟩ rfl)) (ok_nd (ok_lf (ok_ZRet d_X5_isField_61)) (ok_lf (ok_ILdn d_X5_isField_62 rfl rfl))))) (ok_nd (ok_nd (ok_lf (ok_ICst d_X5_isField_63 (by decide) rfl)) (ok_nd (ok_lf (ok_ICst d_X5_isField_64 (by decide) rfl)) (ok_lf (ok_CaS su_X5_within d_X5_isField_65 q774 q775 q6 q776 ⟨by decide +kernel, by decide +kernel, by decide +kernel⟩ ⟨by decide, by decide⟩ rfl)))) (ok_nd (ok_lf (ok_ZRet d_X5_isField_68)) (ok_nd (ok_lf (ok_ICst d_X5_isField_69 (by decide) rfl)) (ok_lf (ok_ZRet d_X5_isField_70))))))
noncomputable def S_X5_isField : Sem := inl P_X5_isField 24 2
theorem su_X5_isField {l : Launch} {G : Gm} : SemU l G yX5_isField (wsOf yX5_isField cX5_isField 2 (some .boolean)) 3 S_X5_isField := sem_inl 24 (by decide +kernel) rfl ok_X5_isField
theorem d_X5_change_0 : decode cX5_change 0 = .ok (.aload_n 0, 1) := by decide +kernel
theorem d_X5_change_1 : decode cX5_change 1 = .ok (.iload_n 1, 1) := by decide +kernel
theorem d_X5_change_2 : decode cX5_change 2 = .ok (.invokevirtual 121, 3) := by decide +kernel
theorem d_X5_change_5 : decode cX5_change 5 = .ok (.ifCond .eq 24, 3) := by decide +kernel
theorem d_X5_change_8 : decode cX5_change 8 = .ok (.iload_n 2, 1) := by decide +kernel
theorem d_X5_change_9 : decode cX5_change 9 = .ok (.iload_n 3, 1) := by decide +kernel
theorem d_X5_change_10 : decode cX5_change 10 = .ok (.invokestatic 127, 3) := by decide +kernel
theorem d_X5_change_13 : decode cX5_change 13 = .ok (.ifCond .eq 16, 3) := by decide +kernel
theorem d_X5_change_16 : decode cX5_change 16 = .ok (.aload_n 0, 1) := by decide +kernel
theorem d_X5_change_17 : decode cX5_change 17 = .ok (.iload_n 1, 1) := by decide +kernel
theorem d_X5_change_18 : decode cX5_change 18 = .ok (.iload_n 2, 1) := by decide +kernel
theorem d_X5_change_19 : decode cX5_change 19 = .ok (.invokestatic 85, 3) := by decide +kernel
theorem d_X5_change_22 : decode cX5_change 22 = .ok (.iload_n 3, 1) := by decide +kernel
theorem d_X5_change_23 : decode cX5_change 23 = .ok (.invokevirtual 74, 3) := by decide +kernel
theorem d_X5_change_26 : decode cX5_change 26 = .ok (.goto 9, 3) := by decide +kernel
theorem d_X5_change_29 : decode cX5_change 29 = .ok (.aload_n 0, 1) := by decide +kernel
theorem d_X5_change_30 : decode cX5_change 30 = .ok (.ldc 60, 2) := by decide +kernel
theorem d_X5_change_32 : decode cX5_change 32 = .ok (.invokevirtual 66, 3) := by decide +kernel
theorem d_X5_change_35 : decode cX5_change 35 = .ok (.ireturn, 1) := by decide +kernel
noncomputable def P_X5_change : Nat → Op := fun pc => nd 17 pc (nd 8 pc (nd 2 pc (nd 1 pc (lf 0 pc (oALd 0 1)) (lf 1 pc (oILd 1 2))) (nd 5 pc (lf 2 pc (oCaV 2 5 S_X5_isDisputant 5)) (lf 5 pc (oIfEq 29 8)))) (nd 10 pc (nd 9 pc (lf 8 pc (oILd 2 9)) (lf 9 pc (oILd 3 10))) (nd 13 pc (lf 10 pc (oCaS 2 S_X5_isField 13)) (nd 16 pc (lf 13 pc (oIfEq 29 16)) (lf 16 pc (oALd 0 17)))))) (nd 26 pc (nd 19 pc (nd 18 pc (lf 17 pc (oILd 1 18)) (lf 18 pc (oILd 2 19))) (nd 22 pc (lf 19 pc (oCaS 2 S_X5_disputantAt 22)) (nd 23 pc (lf 22 pc (oILd 3 23)) (lf 23 pc (oCaV 3 5 S_X5_become 26))))) (nd 30 pc (nd 29 pc (lf 26 pc (oGo 35)) (lf 29 pc (oALd 0 30))) (nd 32 pc (lf 30 pc (oCst (-1000001) 32)) (nd 35 pc (lf 32 pc (oCaV 2 5 S_X5_finding 35)) (lf 35 pc (oIRet))))))
theorem ok_X5_change {l : Launch} {G : Gm} : ∀ pc, OkU (TXm l G (rmD 4) 4 cX5_change RX5) (RXm l G (rmD 4) 4 cX5_change RX5 (some .int)) pc (P_X5_change pc) := fun pc => ok_nd (ok_nd (ok_nd (ok_nd (ok_lf (ok_ALdn d_X5_change_0 rfl rfl)) (ok_lf (ok_ILdn d_X5_change_1 rfl rfl))) (ok_nd (ok_lf (ok_CaV su_X5_isDisputant (by decide) rfl d_X5_change_2 q823 q825 z58 q6 q826 ⟨by decide +kernel, by decide +kernel, by decide +kernel⟩ ⟨by decide, by decide⟩ rfl)) (ok_lf (ok_IfEq d_X5_change_5 (by decide) rfl)))) (ok_nd (ok_nd (ok_lf (ok_ILdn d_X5_change_8 rfl rfl)) (ok_lf (ok_ILdn d_X5_change_9 rfl rfl))) (ok_nd (ok_lf (ok_CaS su_X5_isField d_X5_change_10 q861 q862 q6 q863 ⟨by decide +kernel, by decide +kernel, by decide +kernel⟩ ⟨by decide, by decide⟩ rfl)) (ok_nd (ok_lf (ok_IfEq d_X5_change_13 (by decide) rfl)) (ok_lf (ok_ALdn d_X5_change_16 rfl rfl)))))) (ok_nd (ok_nd (ok_nd (ok_lf (ok_ILdn d_X5_change_17 rfl rfl)) (ok_lf (ok_ILdn d_X5_change_18 rfl rfl))) (ok_nd (ok_lf (ok_CaS su_X5_disputantAt d_X5_change_19 q816 q817 q6 q818 ⟨by decide +kernel, by decide +kernel, by decide +kernel⟩ ⟨by decide, by decide⟩ rfl)) (ok_nd (ok_lf (ok_ILdn d_X5_change_22 rfl rfl)) (ok_lf (ok_CaV su_X5_become (by decide) rfl d_X5_change_23 q777 q779 z55 q6 q780 ⟨by decide +kernel, by decide +kernel, by decide +kernel⟩ ⟨by decide, by decide⟩ rfl))))) (ok_nd (ok_nd (ok_lf (ok_Go d_X5_change_26 (by decide))) (ok_lf (ok_ALdn d_X5_change_29 rfl rfl))) (ok_nd (ok_lf (ok_Ldc d_X5_change_30 q781 rfl)) (ok_nd (ok_lf (ok_CaV su_X5_finding (by decide) rfl d_X5_change_32 q782 q784 z56 q6 q785 ⟨by decide +kernel, by decide +kernel, by decide +kernel⟩ ⟨by decide, by decide⟩ rfl)) (ok_lf (ok_IRet d_X5_change_35))))))
noncomputable def S_X5_change : Sem := lockS (inl P_X5_change 21 4) 0
theorem su_X5_change {l : Launch} {G : Gm} : SemU l G yX5_change (wsOf yX5_change cX5_change 4 (some .int)) 4 S_X5_change := sem_lock (sem_inl 21 (by decide +kernel) rfl ok_X5_change)
theorem d_X5_turnsOf_0 : decode cX5_turnsOf 0 = .ok (.aload_n 0, 1) := by decide +kernel
theorem d_X5_turnsOf_1 : decode cX5_turnsOf 1 = .ok (.getfield 9, 3) := by decide +kernel
theorem d_X5_turnsOf_4 : decode cX5_turnsOf 4 = .ok (.iconst 3, 1) := by decide +kernel
theorem d_X5_turnsOf_5 : decode cX5_turnsOf 5 = .ok (.iaload, 1) := by decide +kernel
theorem d_X5_turnsOf_6 : decode cX5_turnsOf 6 = .ok (.bipush 10, 2) := by decide +kernel
theorem d_X5_turnsOf_8 : decode cX5_turnsOf 8 = .ok (.aload_n 0, 1) := by decide +kernel
theorem d_X5_turnsOf_9 : decode cX5_turnsOf 9 = .ok (.getfield 9, 3) := by decide +kernel
theorem d_X5_turnsOf_12 : decode cX5_turnsOf 12 = .ok (.iconst 4, 1) := by decide +kernel
theorem d_X5_turnsOf_13 : decode cX5_turnsOf 13 = .ok (.iaload, 1) := by decide +kernel
theorem d_X5_turnsOf_14 : decode cX5_turnsOf 14 = .ok (.isub, 1) := by decide +kernel
theorem d_X5_turnsOf_15 : decode cX5_turnsOf 15 = .ok (.imul, 1) := by decide +kernel
theorem d_X5_turnsOf_16 : decode cX5_turnsOf 16 = .ok (.bipush 7, 2) := by decide +kernel
theorem d_X5_turnsOf_18 : decode cX5_turnsOf 18 = .ok (.idiv, 1) := by decide +kernel
theorem d_X5_turnsOf_19 : decode cX5_turnsOf 19 = .ok (.aload_n 0, 1) := by decide +kernel
theorem d_X5_turnsOf_20 : decode cX5_turnsOf 20 = .ok (.iload_n 1, 1) := by decide +kernel
theorem d_X5_turnsOf_21 : decode cX5_turnsOf 21 = .ok (.invokevirtual 109, 3) := by decide +kernel
theorem d_X5_turnsOf_24 : decode cX5_turnsOf 24 = .ok (.iadd, 1) := by decide +kernel
theorem d_X5_turnsOf_25 : decode cX5_turnsOf 25 = .ok (.aload_n 0, 1) := by decide +kernel
theorem d_X5_turnsOf_26 : decode cX5_turnsOf 26 = .ok (.iload_n 2, 1) := by decide +kernel
theorem d_X5_turnsOf_27 : decode cX5_turnsOf 27 = .ok (.invokevirtual 109, 3) := by decide +kernel
theorem d_X5_turnsOf_30 : decode cX5_turnsOf 30 = .ok (.iadd, 1) := by decide +kernel
theorem d_X5_turnsOf_31 : decode cX5_turnsOf 31 = .ok (.ireturn, 1) := by decide +kernel
noncomputable def P_X5_turnsOf : Nat → Op := fun pc => nd 16 pc (nd 8 pc (nd 4 pc (nd 1 pc (lf 0 pc (oALd 0 1)) (lf 1 pc (oGetR 5 0 4))) (nd 5 pc (lf 4 pc (oCst 3 5)) (nd 6 pc (lf 5 pc (oIAL 6)) (lf 6 pc (oCst 10 8))))) (nd 13 pc (nd 9 pc (lf 8 pc (oALd 0 9)) (nd 12 pc (lf 9 pc (oGetR 5 0 12)) (lf 12 pc (oCst 4 13)))) (nd 14 pc (lf 13 pc (oIAL 14)) (nd 15 pc (lf 14 pc (oBin (fun x y => x - y) 15)) (lf 15 pc (oBin (fun x y => x * y) 16)))))) (nd 24 pc (nd 19 pc (nd 18 pc (lf 16 pc (oCst 7 18)) (lf 18 pc (oDiv (fun x y => x / y) 19))) (nd 20 pc (lf 19 pc (oALd 0 20)) (nd 21 pc (lf 20 pc (oILd 1 21)) (lf 21 pc (oCaV 2 5 S_X5_jolts 24))))) (nd 27 pc (nd 25 pc (lf 24 pc (oBin (fun x y => x + y) 25)) (nd 26 pc (lf 25 pc (oALd 0 26)) (lf 26 pc (oILd 2 27)))) (nd 30 pc (lf 27 pc (oCaV 2 5 S_X5_jolts 30)) (nd 31 pc (lf 30 pc (oBin (fun x y => x + y) 31)) (lf 31 pc (oIRet))))))
theorem ok_X5_turnsOf {l : Launch} {G : Gm} : ∀ pc, OkU (TXm l G (rmD 4) 3 cX5_turnsOf RX5) (RXm l G (rmD 4) 3 cX5_turnsOf RX5 (some .int)) pc (P_X5_turnsOf pc) := fun pc => ok_nd (ok_nd (ok_nd (ok_nd (ok_lf (ok_ALdn d_X5_turnsOf_0 rfl rfl)) (ok_lf (ok_GetR (by decide) (by decide) rfl d_X5_turnsOf_1 q703 rfl))) (ok_nd (ok_lf (ok_ICst d_X5_turnsOf_4 (by decide) rfl)) (ok_nd (ok_lf (ok_IAL d_X5_turnsOf_5 rfl)) (ok_lf (ok_BCst d_X5_turnsOf_6 (by decide) rfl))))) (ok_nd (ok_nd (ok_lf (ok_ALdn d_X5_turnsOf_8 rfl rfl)) (ok_nd (ok_lf (ok_GetR (by decide) (by decide) rfl d_X5_turnsOf_9 q703 rfl)) (ok_lf (ok_ICst d_X5_turnsOf_12 (by decide) rfl)))) (ok_nd (ok_lf (ok_IAL d_X5_turnsOf_13 rfl)) (ok_nd (ok_lf (ok_isub d_X5_turnsOf_14 rfl)) (ok_lf (ok_imul d_X5_turnsOf_15 rfl)))))) (ok_nd (ok_nd (ok_nd (ok_lf (ok_BCst d_X5_turnsOf_16 (by decide) rfl)) (ok_lf (ok_idiv d_X5_turnsOf_18 rfl))) (ok_nd (ok_lf (ok_ALdn d_X5_turnsOf_19 rfl rfl)) (ok_nd (ok_lf (ok_ILdn d_X5_turnsOf_20 rfl rfl)) (ok_lf (ok_CaV su_X5_jolts (by decide) rfl d_X5_turnsOf_21 q841 q843 z62 q6 q844 ⟨by decide +kernel, by decide +kernel, by decide +kernel⟩ ⟨by decide, by decide⟩ rfl))))) (ok_nd (ok_nd (ok_lf (ok_iadd d_X5_turnsOf_24 rfl)) (ok_nd (ok_lf (ok_ALdn d_X5_turnsOf_25 rfl rfl)) (ok_lf (ok_ILdn d_X5_turnsOf_26 rfl rfl)))) (ok_nd (ok_lf (ok_CaV su_X5_jolts (by decide) rfl d_X5_turnsOf_27 q841 q843 z62 q6 q844 ⟨by decide +kernel, by decide +kernel, by decide +kernel⟩ ⟨by decide, by decide⟩ rfl)) (ok_nd (ok_lf (ok_iadd d_X5_turnsOf_30 rfl)) (ok_lf (ok_IRet d_X5_turnsOf_31))))))
noncomputable def S_X5_turnsOf : Sem := lockS (inl P_X5_turnsOf 24 3) 0
theorem su_X5_turnsOf {l : Launch} {G : Gm} : SemU l G yX5_turnsOf (wsOf yX5_turnsOf cX5_turnsOf 3 (some .int)) 4 S_X5_turnsOf := sem_lock (sem_inl 24 (by decide +kernel) rfl ok_X5_turnsOf)
theorem d_X5_areTwo_0 : decode cX5_areTwo 0 = .ok (.aload_n 0, 1) := by decide +kernel
theorem d_X5_areTwo_1 : decode cX5_areTwo 1 = .ok (.iload_n 1, 1) := by decide +kernel
theorem d_X5_areTwo_2 : decode cX5_areTwo 2 = .ok (.invokevirtual 121, 3) := by decide +kernel
theorem d_X5_areTwo_5 : decode cX5_areTwo 5 = .ok (.ifCond .eq 20, 3) := by decide +kernel
theorem d_X5_areTwo_8 : decode cX5_areTwo 8 = .ok (.aload_n 0, 1) := by decide +kernel
theorem d_X5_areTwo_9 : decode cX5_areTwo 9 = .ok (.iload_n 2, 1) := by decide +kernel
theorem d_X5_areTwo_10 : decode cX5_areTwo 10 = .ok (.invokevirtual 121, 3) := by decide +kernel
theorem d_X5_areTwo_13 : decode cX5_areTwo 13 = .ok (.ifCond .eq 12, 3) := by decide +kernel
theorem d_X5_areTwo_16 : decode cX5_areTwo 16 = .ok (.iload_n 1, 1) := by decide +kernel
theorem d_X5_areTwo_17 : decode cX5_areTwo 17 = .ok (.iload_n 2, 1) := by decide +kernel
theorem d_X5_areTwo_18 : decode cX5_areTwo 18 = .ok (.if_icmp .eq 7, 3) := by decide +kernel
theorem d_X5_areTwo_21 : decode cX5_areTwo 21 = .ok (.iconst 1, 1) := by decide +kernel
theorem d_X5_areTwo_22 : decode cX5_areTwo 22 = .ok (.goto 4, 3) := by decide +kernel
theorem d_X5_areTwo_25 : decode cX5_areTwo 25 = .ok (.iconst 0, 1) := by decide +kernel
theorem d_X5_areTwo_26 : decode cX5_areTwo 26 = .ok (.ireturn, 1) := by decide +kernel
noncomputable def P_X5_areTwo : Nat → Op := fun pc => nd 13 pc (nd 5 pc (nd 1 pc (lf 0 pc (oALd 0 1)) (nd 2 pc (lf 1 pc (oILd 1 2)) (lf 2 pc (oCaV 2 5 S_X5_isDisputant 5)))) (nd 9 pc (nd 8 pc (lf 5 pc (oIfEq 25 8)) (lf 8 pc (oALd 0 9))) (nd 10 pc (lf 9 pc (oILd 2 10)) (lf 10 pc (oCaV 2 5 S_X5_isDisputant 13))))) (nd 21 pc (nd 17 pc (nd 16 pc (lf 13 pc (oIfEq 25 16)) (lf 16 pc (oILd 1 17))) (nd 18 pc (lf 17 pc (oILd 2 18)) (lf 18 pc (oCpEq 25 21)))) (nd 25 pc (nd 22 pc (lf 21 pc (oCst 1 22)) (lf 22 pc (oGo 26))) (nd 26 pc (lf 25 pc (oCst 0 26)) (lf 26 pc (oZRet)))))
theorem ok_X5_areTwo {l : Launch} {G : Gm} : ∀ pc, OkU (TXm l G (rmD 3) 3 cX5_areTwo RX5) (RXm l G (rmD 3) 3 cX5_areTwo RX5 (some .boolean)) pc (P_X5_areTwo pc) := fun pc => ok_nd (ok_nd (ok_nd (ok_lf (ok_ALdn d_X5_areTwo_0 rfl rfl)) (ok_nd (ok_lf (ok_ILdn d_X5_areTwo_1 rfl rfl)) (ok_lf (ok_CaV su_X5_isDisputant (by decide) rfl d_X5_areTwo_2 q823 q825 z58 q6 q826 ⟨by decide +kernel, by decide +kernel, by decide +kernel⟩ ⟨by decide, by decide⟩ rfl)))) (ok_nd (ok_nd (ok_lf (ok_IfEq d_X5_areTwo_5 (by decide) rfl)) (ok_lf (ok_ALdn d_X5_areTwo_8 rfl rfl))) (ok_nd (ok_lf (ok_ILdn d_X5_areTwo_9 rfl rfl)) (ok_lf (ok_CaV su_X5_isDisputant (by decide) rfl d_X5_areTwo_10 q823 q825 z58 q6 q826 ⟨by decide +kernel, by decide +kernel, by decide +kernel⟩ ⟨by decide, by decide⟩ rfl))))) (ok_nd (ok_nd (ok_nd (ok_lf (ok_IfEq d_X5_areTwo_13 (by decide) rfl)) (ok_lf (ok_ILdn d_X5_areTwo_16 rfl rfl))) (ok_nd (ok_lf (ok_ILdn d_X5_areTwo_17 rfl rfl)) (ok_lf (ok_CpEq d_X5_areTwo_18 (by decide) rfl)))) (ok_nd (ok_nd (ok_lf (ok_ICst d_X5_areTwo_21 (by decide) rfl)) (ok_lf (ok_Go d_X5_areTwo_22 (by decide)))) (ok_nd (ok_lf (ok_ICst d_X5_areTwo_25 (by decide) rfl)) (ok_lf (ok_ZRet d_X5_areTwo_26)))))
noncomputable def S_X5_areTwo : Sem := inl P_X5_areTwo 17 3
theorem su_X5_areTwo {l : Launch} {G : Gm} : SemU l G yX5_areTwo (wsOf yX5_areTwo cX5_areTwo 3 (some .boolean)) 3 S_X5_areTwo := sem_inl 17 (by decide +kernel) rfl ok_X5_areTwo
theorem d_X5_turning_0 : decode cX5_turning 0 = .ok (.aload_n 0, 1) := by decide +kernel
theorem d_X5_turning_1 : decode cX5_turning 1 = .ok (.iload_n 1, 1) := by decide +kernel
theorem d_X5_turning_2 : decode cX5_turning 2 = .ok (.iload_n 2, 1) := by decide +kernel
theorem d_X5_turning_3 : decode cX5_turning 3 = .ok (.invokevirtual 131, 3) := by decide +kernel
theorem d_X5_turning_6 : decode cX5_turning 6 = .ok (.ifCond .eq 12, 3) := by decide +kernel
theorem d_X5_turning_9 : decode cX5_turning 9 = .ok (.aload_n 0, 1) := by decide +kernel
theorem d_X5_turning_10 : decode cX5_turning 10 = .ok (.iload_n 1, 1) := by decide +kernel
theorem d_X5_turning_11 : decode cX5_turning 11 = .ok (.iload_n 2, 1) := by decide +kernel
theorem d_X5_turning_12 : decode cX5_turning 12 = .ok (.invokevirtual 134, 3) := by decide +kernel
theorem d_X5_turning_15 : decode cX5_turning 15 = .ok (.goto 9, 3) := by decide +kernel
theorem d_X5_turning_18 : decode cX5_turning 18 = .ok (.aload_n 0, 1) := by decide +kernel
theorem d_X5_turning_19 : decode cX5_turning 19 = .ok (.ldc 60, 2) := by decide +kernel
theorem d_X5_turning_21 : decode cX5_turning 21 = .ok (.invokevirtual 66, 3) := by decide +kernel
theorem d_X5_turning_24 : decode cX5_turning 24 = .ok (.ireturn, 1) := by decide +kernel
noncomputable def P_X5_turning : Nat → Op := fun pc => nd 11 pc (nd 3 pc (nd 1 pc (lf 0 pc (oALd 0 1)) (nd 2 pc (lf 1 pc (oILd 1 2)) (lf 2 pc (oILd 2 3)))) (nd 9 pc (nd 6 pc (lf 3 pc (oCaV 3 5 S_X5_areTwo 6)) (lf 6 pc (oIfEq 18 9))) (nd 10 pc (lf 9 pc (oALd 0 10)) (lf 10 pc (oILd 1 11))))) (nd 18 pc (nd 12 pc (lf 11 pc (oILd 2 12)) (nd 15 pc (lf 12 pc (oCaV 3 5 S_X5_turnsOf 15)) (lf 15 pc (oGo 24)))) (nd 21 pc (nd 19 pc (lf 18 pc (oALd 0 19)) (lf 19 pc (oCst (-1000001) 21))) (nd 24 pc (lf 21 pc (oCaV 2 5 S_X5_finding 24)) (lf 24 pc (oIRet)))))
theorem ok_X5_turning {l : Launch} {G : Gm} : ∀ pc, OkU (TXm l G (rmD 5) 3 cX5_turning RX5) (RXm l G (rmD 5) 3 cX5_turning RX5 (some .int)) pc (P_X5_turning pc) := fun pc => ok_nd (ok_nd (ok_nd (ok_lf (ok_ALdn d_X5_turning_0 rfl rfl)) (ok_nd (ok_lf (ok_ILdn d_X5_turning_1 rfl rfl)) (ok_lf (ok_ILdn d_X5_turning_2 rfl rfl)))) (ok_nd (ok_nd (ok_lf (ok_CaV su_X5_areTwo (by decide) rfl d_X5_turning_3 q868 q870 z66 q6 q871 ⟨by decide +kernel, by decide +kernel, by decide +kernel⟩ ⟨by decide, by decide⟩ rfl)) (ok_lf (ok_IfEq d_X5_turning_6 (by decide) rfl))) (ok_nd (ok_lf (ok_ALdn d_X5_turning_9 rfl rfl)) (ok_lf (ok_ILdn d_X5_turning_10 rfl rfl))))) (ok_nd (ok_nd (ok_lf (ok_ILdn d_X5_turning_11 rfl rfl)) (ok_nd (ok_lf (ok_CaV su_X5_turnsOf (by decide) rfl d_X5_turning_12 q872 q874 z67 q6 q875 ⟨by decide +kernel, by decide +kernel, by decide +kernel⟩ ⟨by decide, by decide⟩ rfl)) (ok_lf (ok_Go d_X5_turning_15 (by decide))))) (ok_nd (ok_nd (ok_lf (ok_ALdn d_X5_turning_18 rfl rfl)) (ok_lf (ok_Ldc d_X5_turning_19 q781 rfl))) (ok_nd (ok_lf (ok_CaV su_X5_finding (by decide) rfl d_X5_turning_21 q782 q784 z56 q6 q785 ⟨by decide +kernel, by decide +kernel, by decide +kernel⟩ ⟨by decide, by decide⟩ rfl)) (ok_lf (ok_IRet d_X5_turning_24)))))
noncomputable def S_X5_turning : Sem := lockS (inl P_X5_turning 16 3) 0
theorem su_X5_turning {l : Launch} {G : Gm} : SemU l G yX5_turning (wsOf yX5_turning cX5_turning 3 (some .int)) 5 S_X5_turning := sem_lock (sem_inl 16 (by decide +kernel) rfl ok_X5_turning)
theorem d_X5_fallsFor_0 : decode cX5_fallsFor 0 = .ok (.aload_n 0, 1) := by decide +kernel
theorem d_X5_fallsFor_1 : decode cX5_fallsFor 1 = .ok (.iload_n 1, 1) := by decide +kernel
theorem d_X5_fallsFor_2 : decode cX5_fallsFor 2 = .ok (.iload_n 2, 1) := by decide +kernel
theorem d_X5_fallsFor_3 : decode cX5_fallsFor 3 = .ok (.invokevirtual 134, 3) := by decide +kernel
theorem d_X5_fallsFor_6 : decode cX5_fallsFor 6 = .ok (.istore_n 3, 1) := by decide +kernel
theorem d_X5_fallsFor_7 : decode cX5_fallsFor 7 = .ok (.iload_n 3, 1) := by decide +kernel
theorem d_X5_fallsFor_8 : decode cX5_fallsFor 8 = .ok (.bipush 13, 2) := by decide +kernel
theorem d_X5_fallsFor_10 : decode cX5_fallsFor 10 = .ok (.irem, 1) := by decide +kernel
theorem d_X5_fallsFor_11 : decode cX5_fallsFor 11 = .ok (.ifCond .ne 5, 3) := by decide +kernel
theorem d_X5_fallsFor_14 : decode cX5_fallsFor 14 = .ok (.iconst (-1), 1) := by decide +kernel
theorem d_X5_fallsFor_15 : decode cX5_fallsFor 15 = .ok (.ireturn, 1) := by decide +kernel
theorem d_X5_fallsFor_16 : decode cX5_fallsFor 16 = .ok (.aload_n 0, 1) := by decide +kernel
theorem d_X5_fallsFor_17 : decode cX5_fallsFor 17 = .ok (.iload_n 1, 1) := by decide +kernel
theorem d_X5_fallsFor_18 : decode cX5_fallsFor 18 = .ok (.invokevirtual 106, 3) := by decide +kernel
theorem d_X5_fallsFor_21 : decode cX5_fallsFor 21 = .ok (.aload_n 0, 1) := by decide +kernel
theorem d_X5_fallsFor_22 : decode cX5_fallsFor 22 = .ok (.iload_n 2, 1) := by decide +kernel
theorem d_X5_fallsFor_23 : decode cX5_fallsFor 23 = .ok (.invokevirtual 106, 3) := by decide +kernel
theorem d_X5_fallsFor_26 : decode cX5_fallsFor 26 = .ok (.isub, 1) := by decide +kernel
theorem d_X5_fallsFor_27 : decode cX5_fallsFor 27 = .ok (.istore 4, 2) := by decide +kernel
theorem d_X5_fallsFor_29 : decode cX5_fallsFor 29 = .ok (.iload_n 3, 1) := by decide +kernel
theorem d_X5_fallsFor_30 : decode cX5_fallsFor 30 = .ok (.iconst 2, 1) := by decide +kernel
theorem d_X5_fallsFor_31 : decode cX5_fallsFor 31 = .ok (.irem, 1) := by decide +kernel
theorem d_X5_fallsFor_32 : decode cX5_fallsFor 32 = .ok (.ifCond .ne 14, 3) := by decide +kernel
theorem d_X5_fallsFor_35 : decode cX5_fallsFor 35 = .ok (.iload 4, 2) := by decide +kernel
theorem d_X5_fallsFor_37 : decode cX5_fallsFor 37 = .ok (.ifCond .ge 7, 3) := by decide +kernel
theorem d_X5_fallsFor_40 : decode cX5_fallsFor 40 = .ok (.iload_n 1, 1) := by decide +kernel
theorem d_X5_fallsFor_41 : decode cX5_fallsFor 41 = .ok (.goto 4, 3) := by decide +kernel
theorem d_X5_fallsFor_44 : decode cX5_fallsFor 44 = .ok (.iload_n 2, 1) := by decide +kernel
theorem d_X5_fallsFor_45 : decode cX5_fallsFor 45 = .ok (.ireturn, 1) := by decide +kernel
theorem d_X5_fallsFor_46 : decode cX5_fallsFor 46 = .ok (.iload 4, 2) := by decide +kernel
theorem d_X5_fallsFor_48 : decode cX5_fallsFor 48 = .ok (.ifCond .ge 7, 3) := by decide +kernel
theorem d_X5_fallsFor_51 : decode cX5_fallsFor 51 = .ok (.iload_n 2, 1) := by decide +kernel
theorem d_X5_fallsFor_52 : decode cX5_fallsFor 52 = .ok (.goto 4, 3) := by decide +kernel
theorem d_X5_fallsFor_55 : decode cX5_fallsFor 55 = .ok (.iload_n 1, 1) := by decide +kernel
theorem d_X5_fallsFor_56 : decode cX5_fallsFor 56 = .ok (.ireturn, 1) := by decide +kernel
noncomputable def P_X5_fallsFor : Nat → Op := fun pc => nd 26 pc (nd 11 pc (nd 6 pc (nd 2 pc (nd 1 pc (lf 0 pc (oALd 0 1)) (lf 1 pc (oILd 1 2))) (nd 3 pc (lf 2 pc (oILd 2 3)) (lf 3 pc (oCaV 3 5 S_X5_turnsOf 6)))) (nd 8 pc (nd 7 pc (lf 6 pc (oISt 3 7)) (lf 7 pc (oILd 3 8))) (nd 10 pc (lf 8 pc (oCst 13 10)) (lf 10 pc (oDiv (fun x y => x % y) 11))))) (nd 17 pc (nd 15 pc (nd 14 pc (lf 11 pc (oIfEq 14 16)) (lf 14 pc (oCst (-1) 15))) (nd 16 pc (lf 15 pc (oIRet)) (lf 16 pc (oALd 0 17)))) (nd 21 pc (nd 18 pc (lf 17 pc (oILd 1 18)) (lf 18 pc (oCaV 2 5 S_X5_presses 21))) (nd 22 pc (lf 21 pc (oALd 0 22)) (nd 23 pc (lf 22 pc (oILd 2 23)) (lf 23 pc (oCaV 2 5 S_X5_presses 26))))))) (nd 41 pc (nd 31 pc (nd 29 pc (nd 27 pc (lf 26 pc (oBin (fun x y => x - y) 27)) (lf 27 pc (oISt 4 29))) (nd 30 pc (lf 29 pc (oILd 3 30)) (lf 30 pc (oCst 2 31)))) (nd 35 pc (nd 32 pc (lf 31 pc (oDiv (fun x y => x % y) 32)) (lf 32 pc (oIfEq 35 46))) (nd 37 pc (lf 35 pc (oILd 4 37)) (nd 40 pc (lf 37 pc (oIfLt 40 44)) (lf 40 pc (oILd 1 41)))))) (nd 48 pc (nd 45 pc (nd 44 pc (lf 41 pc (oGo 45)) (lf 44 pc (oILd 2 45))) (nd 46 pc (lf 45 pc (oIRet)) (lf 46 pc (oILd 4 48)))) (nd 52 pc (nd 51 pc (lf 48 pc (oIfLt 51 55)) (lf 51 pc (oILd 2 52))) (nd 55 pc (lf 52 pc (oGo 56)) (nd 56 pc (lf 55 pc (oILd 1 56)) (lf 56 pc (oIRet)))))))
theorem ok_X5_fallsFor {l : Launch} {G : Gm} : ∀ pc, OkU (TXm l G (rmD 5) 5 cX5_fallsFor RX5) (RXm l G (rmD 5) 5 cX5_fallsFor RX5 (some .int)) pc (P_X5_fallsFor pc) := fun pc => ok_nd (ok_nd (ok_nd (ok_nd (ok_nd (ok_lf (ok_ALdn d_X5_fallsFor_0 rfl rfl)) (ok_lf (ok_ILdn d_X5_fallsFor_1 rfl rfl))) (ok_nd (ok_lf (ok_ILdn d_X5_fallsFor_2 rfl rfl)) (ok_lf (ok_CaV su_X5_turnsOf (by decide) rfl d_X5_fallsFor_3 q872 q874 z67 q6 q875 ⟨by decide +kernel, by decide +kernel, by decide +kernel⟩ ⟨by decide, by decide⟩ rfl)))) (ok_nd (ok_nd (ok_lf (ok_IStn d_X5_fallsFor_6 rfl rfl)) (ok_lf (ok_ILdn d_X5_fallsFor_7 rfl rfl))) (ok_nd (ok_lf (ok_BCst d_X5_fallsFor_8 (by decide) rfl)) (ok_lf (ok_irem d_X5_fallsFor_10 rfl))))) (ok_nd (ok_nd (ok_nd (ok_lf (ok_IfNe d_X5_fallsFor_11 (by decide) rfl)) (ok_lf (ok_ICst d_X5_fallsFor_14 (by decide) rfl))) (ok_nd (ok_lf (ok_IRet d_X5_fallsFor_15)) (ok_lf (ok_ALdn d_X5_fallsFor_16 rfl rfl)))) (ok_nd (ok_nd (ok_lf (ok_ILdn d_X5_fallsFor_17 rfl rfl)) (ok_lf (ok_CaV su_X5_presses (by decide) rfl d_X5_fallsFor_18 q831 q833 z60 q6 q834 ⟨by decide +kernel, by decide +kernel, by decide +kernel⟩ ⟨by decide, by decide⟩ rfl))) (ok_nd (ok_lf (ok_ALdn d_X5_fallsFor_21 rfl rfl)) (ok_nd (ok_lf (ok_ILdn d_X5_fallsFor_22 rfl rfl)) (ok_lf (ok_CaV su_X5_presses (by decide) rfl d_X5_fallsFor_23 q831 q833 z60 q6 q834 ⟨by decide +kernel, by decide +kernel, by decide +kernel⟩ ⟨by decide, by decide⟩ rfl))))))) (ok_nd (ok_nd (ok_nd (ok_nd (ok_lf (ok_isub d_X5_fallsFor_26 rfl)) (ok_lf (ok_ISt d_X5_fallsFor_27 rfl))) (ok_nd (ok_lf (ok_ILdn d_X5_fallsFor_29 rfl rfl)) (ok_lf (ok_ICst d_X5_fallsFor_30 (by decide) rfl)))) (ok_nd (ok_nd (ok_lf (ok_irem d_X5_fallsFor_31 rfl)) (ok_lf (ok_IfNe d_X5_fallsFor_32 (by decide) rfl))) (ok_nd (ok_lf (ok_ILd d_X5_fallsFor_35 rfl)) (ok_nd (ok_lf (ok_IfGe d_X5_fallsFor_37 (by decide) rfl)) (ok_lf (ok_ILdn d_X5_fallsFor_40 rfl rfl)))))) (ok_nd (ok_nd (ok_nd (ok_lf (ok_Go d_X5_fallsFor_41 (by decide))) (ok_lf (ok_ILdn d_X5_fallsFor_44 rfl rfl))) (ok_nd (ok_lf (ok_IRet d_X5_fallsFor_45)) (ok_lf (ok_ILd d_X5_fallsFor_46 rfl)))) (ok_nd (ok_nd (ok_lf (ok_IfGe d_X5_fallsFor_48 (by decide) rfl)) (ok_lf (ok_ILdn d_X5_fallsFor_51 rfl rfl))) (ok_nd (ok_lf (ok_Go d_X5_fallsFor_52 (by decide))) (ok_nd (ok_lf (ok_ILdn d_X5_fallsFor_55 rfl rfl)) (ok_lf (ok_IRet d_X5_fallsFor_56)))))))
noncomputable def S_X5_fallsFor : Sem := lockS (inl P_X5_fallsFor 37 5) 0
theorem su_X5_fallsFor {l : Launch} {G : Gm} : SemU l G yX5_fallsFor (wsOf yX5_fallsFor cX5_fallsFor 5 (some .int)) 5 S_X5_fallsFor := sem_lock (sem_inl 37 (by decide +kernel) rfl ok_X5_fallsFor)
theorem d_X5_falls_0 : decode cX5_falls 0 = .ok (.aload_n 0, 1) := by decide +kernel
theorem d_X5_falls_1 : decode cX5_falls 1 = .ok (.iload_n 1, 1) := by decide +kernel
theorem d_X5_falls_2 : decode cX5_falls 2 = .ok (.iload_n 2, 1) := by decide +kernel
theorem d_X5_falls_3 : decode cX5_falls 3 = .ok (.invokevirtual 131, 3) := by decide +kernel
theorem d_X5_falls_6 : decode cX5_falls 6 = .ok (.ifCond .eq 16, 3) := by decide +kernel
theorem d_X5_falls_9 : decode cX5_falls 9 = .ok (.aload_n 0, 1) := by decide +kernel
theorem d_X5_falls_10 : decode cX5_falls 10 = .ok (.aload_n 0, 1) := by decide +kernel
theorem d_X5_falls_11 : decode cX5_falls 11 = .ok (.iload_n 1, 1) := by decide +kernel
theorem d_X5_falls_12 : decode cX5_falls 12 = .ok (.iload_n 2, 1) := by decide +kernel
theorem d_X5_falls_13 : decode cX5_falls 13 = .ok (.invokevirtual 137, 3) := by decide +kernel
theorem d_X5_falls_16 : decode cX5_falls 16 = .ok (.invokevirtual 140, 3) := by decide +kernel
theorem d_X5_falls_19 : decode cX5_falls 19 = .ok (.goto 9, 3) := by decide +kernel
theorem d_X5_falls_22 : decode cX5_falls 22 = .ok (.aload_n 0, 1) := by decide +kernel
theorem d_X5_falls_23 : decode cX5_falls 23 = .ok (.ldc 60, 2) := by decide +kernel
theorem d_X5_falls_25 : decode cX5_falls 25 = .ok (.invokevirtual 66, 3) := by decide +kernel
theorem d_X5_falls_28 : decode cX5_falls 28 = .ok (.ireturn, 1) := by decide +kernel
noncomputable def P_X5_falls : Nat → Op := fun pc => nd 12 pc (nd 6 pc (nd 2 pc (nd 1 pc (lf 0 pc (oALd 0 1)) (lf 1 pc (oILd 1 2))) (nd 3 pc (lf 2 pc (oILd 2 3)) (lf 3 pc (oCaV 3 5 S_X5_areTwo 6)))) (nd 10 pc (nd 9 pc (lf 6 pc (oIfEq 22 9)) (lf 9 pc (oALd 0 10))) (nd 11 pc (lf 10 pc (oALd 0 11)) (lf 11 pc (oILd 1 12))))) (nd 22 pc (nd 16 pc (nd 13 pc (lf 12 pc (oILd 2 13)) (lf 13 pc (oCaV 3 5 S_X5_fallsFor 16))) (nd 19 pc (lf 16 pc (oCaV 2 5 S_X5_orNone 19)) (lf 19 pc (oGo 28)))) (nd 25 pc (nd 23 pc (lf 22 pc (oALd 0 23)) (lf 23 pc (oCst (-1000001) 25))) (nd 28 pc (lf 25 pc (oCaV 2 5 S_X5_finding 28)) (lf 28 pc (oIRet)))))
theorem ok_X5_falls {l : Launch} {G : Gm} : ∀ pc, OkU (TXm l G (rmD 6) 3 cX5_falls RX5) (RXm l G (rmD 6) 3 cX5_falls RX5 (some .int)) pc (P_X5_falls pc) := fun pc => ok_nd (ok_nd (ok_nd (ok_nd (ok_lf (ok_ALdn d_X5_falls_0 rfl rfl)) (ok_lf (ok_ILdn d_X5_falls_1 rfl rfl))) (ok_nd (ok_lf (ok_ILdn d_X5_falls_2 rfl rfl)) (ok_lf (ok_CaV su_X5_areTwo (by decide) rfl d_X5_falls_3 q868 q870 z66 q6 q871 ⟨by decide +kernel, by decide +kernel, by decide +kernel⟩ ⟨by decide, by decide⟩ rfl)))) (ok_nd (ok_nd (ok_lf (ok_IfEq d_X5_falls_6 (by decide) rfl)) (ok_lf (ok_ALdn d_X5_falls_9 rfl rfl))) (ok_nd (ok_lf (ok_ALdn d_X5_falls_10 rfl rfl)) (ok_lf (ok_ILdn d_X5_falls_11 rfl rfl))))) (ok_nd (ok_nd (ok_nd (ok_lf (ok_ILdn d_X5_falls_12 rfl rfl)) (ok_lf (ok_CaV su_X5_fallsFor (by decide) rfl d_X5_falls_13 q880 q882 z68 q6 q883 ⟨by decide +kernel, by decide +kernel, by decide +kernel⟩ ⟨by decide, by decide⟩ rfl))) (ok_nd (ok_lf (ok_CaV su_X5_orNone (by decide) rfl d_X5_falls_16 q884 q886 z69 q6 q887 ⟨by decide +kernel, by decide +kernel, by decide +kernel⟩ ⟨by decide, by decide⟩ rfl)) (ok_lf (ok_Go d_X5_falls_19 (by decide))))) (ok_nd (ok_nd (ok_lf (ok_ALdn d_X5_falls_22 rfl rfl)) (ok_lf (ok_Ldc d_X5_falls_23 q781 rfl))) (ok_nd (ok_lf (ok_CaV su_X5_finding (by decide) rfl d_X5_falls_25 q782 q784 z56 q6 q785 ⟨by decide +kernel, by decide +kernel, by decide +kernel⟩ ⟨by decide, by decide⟩ rfl)) (ok_lf (ok_IRet d_X5_falls_28)))))
noncomputable def S_X5_falls : Sem := lockS (inl P_X5_falls 18 3) 0
theorem su_X5_falls {l : Launch} {G : Gm} : SemU l G yX5_falls (wsOf yX5_falls cX5_falls 3 (some .int)) 6 S_X5_falls := sem_lock (sem_inl 18 (by decide +kernel) rfl ok_X5_falls)
theorem d_X5_fallsOut_0 : decode cX5_fallsOut 0 = .ok (.aload_n 0, 1) := by decide +kernel
theorem d_X5_fallsOut_1 : decode cX5_fallsOut 1 = .ok (.getfield 9, 3) := by decide +kernel
theorem d_X5_fallsOut_4 : decode cX5_fallsOut 4 = .ok (.bipush 6, 2) := by decide +kernel
theorem d_X5_fallsOut_6 : decode cX5_fallsOut 6 = .ok (.aload_n 0, 1) := by decide +kernel
theorem d_X5_fallsOut_7 : decode cX5_fallsOut 7 = .ok (.getfield 9, 3) := by decide +kernel
theorem d_X5_fallsOut_10 : decode cX5_fallsOut 10 = .ok (.iconst 0, 1) := by decide +kernel
theorem d_X5_fallsOut_11 : decode cX5_fallsOut 11 = .ok (.iaload, 1) := by decide +kernel
theorem d_X5_fallsOut_12 : decode cX5_fallsOut 12 = .ok (.bipush 6, 2) := by decide +kernel
theorem d_X5_fallsOut_14 : decode cX5_fallsOut 14 = .ok (.irem, 1) := by decide +kernel
theorem d_X5_fallsOut_15 : decode cX5_fallsOut 15 = .ok (.iadd, 1) := by decide +kernel
theorem d_X5_fallsOut_16 : decode cX5_fallsOut 16 = .ok (.iaload, 1) := by decide +kernel
theorem d_X5_fallsOut_17 : decode cX5_fallsOut 17 = .ok (.bipush 10, 2) := by decide +kernel
theorem d_X5_fallsOut_19 : decode cX5_fallsOut 19 = .ok (.idiv, 1) := by decide +kernel
theorem d_X5_fallsOut_20 : decode cX5_fallsOut 20 = .ok (.istore_n 1, 1) := by decide +kernel
theorem d_X5_fallsOut_21 : decode cX5_fallsOut 21 = .ok (.aload_n 0, 1) := by decide +kernel
theorem d_X5_fallsOut_22 : decode cX5_fallsOut 22 = .ok (.getfield 9, 3) := by decide +kernel
theorem d_X5_fallsOut_25 : decode cX5_fallsOut 25 = .ok (.bipush 6, 2) := by decide +kernel
theorem d_X5_fallsOut_27 : decode cX5_fallsOut 27 = .ok (.aload_n 0, 1) := by decide +kernel
theorem d_X5_fallsOut_28 : decode cX5_fallsOut 28 = .ok (.getfield 9, 3) := by decide +kernel
theorem d_X5_fallsOut_31 : decode cX5_fallsOut 31 = .ok (.iconst 0, 1) := by decide +kernel
theorem d_X5_fallsOut_32 : decode cX5_fallsOut 32 = .ok (.iaload, 1) := by decide +kernel
theorem d_X5_fallsOut_33 : decode cX5_fallsOut 33 = .ok (.bipush 6, 2) := by decide +kernel
theorem d_X5_fallsOut_35 : decode cX5_fallsOut 35 = .ok (.irem, 1) := by decide +kernel
theorem d_X5_fallsOut_36 : decode cX5_fallsOut 36 = .ok (.iadd, 1) := by decide +kernel
theorem d_X5_fallsOut_37 : decode cX5_fallsOut 37 = .ok (.iaload, 1) := by decide +kernel
theorem d_X5_fallsOut_38 : decode cX5_fallsOut 38 = .ok (.bipush 10, 2) := by decide +kernel
theorem d_X5_fallsOut_40 : decode cX5_fallsOut 40 = .ok (.irem, 1) := by decide +kernel
theorem d_X5_fallsOut_41 : decode cX5_fallsOut 41 = .ok (.istore_n 2, 1) := by decide +kernel
theorem d_X5_fallsOut_42 : decode cX5_fallsOut 42 = .ok (.aload_n 0, 1) := by decide +kernel
theorem d_X5_fallsOut_43 : decode cX5_fallsOut 43 = .ok (.iload_n 1, 1) := by decide +kernel
theorem d_X5_fallsOut_44 : decode cX5_fallsOut 44 = .ok (.iload_n 2, 1) := by decide +kernel
theorem d_X5_fallsOut_45 : decode cX5_fallsOut 45 = .ok (.invokevirtual 131, 3) := by decide +kernel
theorem d_X5_fallsOut_48 : decode cX5_fallsOut 48 = .ok (.ifCond .eq 23, 3) := by decide +kernel
theorem d_X5_fallsOut_51 : decode cX5_fallsOut 51 = .ok (.aload_n 0, 1) := by decide +kernel
theorem d_X5_fallsOut_52 : decode cX5_fallsOut 52 = .ok (.iload_n 1, 1) := by decide +kernel
theorem d_X5_fallsOut_53 : decode cX5_fallsOut 53 = .ok (.iconst 5, 1) := by decide +kernel
theorem d_X5_fallsOut_54 : decode cX5_fallsOut 54 = .ok (.invokevirtual 95, 3) := by decide +kernel
theorem d_X5_fallsOut_57 : decode cX5_fallsOut 57 = .ok (.iconst 1, 1) := by decide +kernel
theorem d_X5_fallsOut_58 : decode cX5_fallsOut 58 = .ok (.if_icmp .eq 13, 3) := by decide +kernel
theorem d_X5_fallsOut_61 : decode cX5_fallsOut 61 = .ok (.aload_n 0, 1) := by decide +kernel
theorem d_X5_fallsOut_62 : decode cX5_fallsOut 62 = .ok (.iload_n 2, 1) := by decide +kernel
theorem d_X5_fallsOut_63 : decode cX5_fallsOut 63 = .ok (.iconst 5, 1) := by decide +kernel
theorem d_X5_fallsOut_64 : decode cX5_fallsOut 64 = .ok (.invokevirtual 95, 3) := by decide +kernel
theorem d_X5_fallsOut_67 : decode cX5_fallsOut 67 = .ok (.iconst 1, 1) := by decide +kernel
theorem d_X5_fallsOut_68 : decode cX5_fallsOut 68 = .ok (.if_icmp .ne 7, 3) := by decide +kernel
theorem d_X5_fallsOut_71 : decode cX5_fallsOut 71 = .ok (.iconst 1, 1) := by decide +kernel
theorem d_X5_fallsOut_72 : decode cX5_fallsOut 72 = .ok (.goto 4, 3) := by decide +kernel
theorem d_X5_fallsOut_75 : decode cX5_fallsOut 75 = .ok (.iconst 0, 1) := by decide +kernel
theorem d_X5_fallsOut_76 : decode cX5_fallsOut 76 = .ok (.ireturn, 1) := by decide +kernel
noncomputable def P_X5_fallsOut : Nat → Op := fun pc => nd 37 pc (nd 19 pc (nd 11 pc (nd 6 pc (nd 1 pc (lf 0 pc (oALd 0 1)) (nd 4 pc (lf 1 pc (oGetR 5 0 4)) (lf 4 pc (oCst 6 6)))) (nd 7 pc (lf 6 pc (oALd 0 7)) (nd 10 pc (lf 7 pc (oGetR 5 0 10)) (lf 10 pc (oCst 0 11))))) (nd 15 pc (nd 12 pc (lf 11 pc (oIAL 12)) (nd 14 pc (lf 12 pc (oCst 6 14)) (lf 14 pc (oDiv (fun x y => x % y) 15)))) (nd 16 pc (lf 15 pc (oBin (fun x y => x + y) 16)) (nd 17 pc (lf 16 pc (oIAL 17)) (lf 17 pc (oCst 10 19)))))) (nd 28 pc (nd 22 pc (nd 20 pc (lf 19 pc (oDiv (fun x y => x / y) 20)) (nd 21 pc (lf 20 pc (oISt 1 21)) (lf 21 pc (oALd 0 22)))) (nd 25 pc (lf 22 pc (oGetR 5 0 25)) (nd 27 pc (lf 25 pc (oCst 6 27)) (lf 27 pc (oALd 0 28))))) (nd 33 pc (nd 31 pc (lf 28 pc (oGetR 5 0 31)) (nd 32 pc (lf 31 pc (oCst 0 32)) (lf 32 pc (oIAL 33)))) (nd 35 pc (lf 33 pc (oCst 6 35)) (nd 36 pc (lf 35 pc (oDiv (fun x y => x % y) 36)) (lf 36 pc (oBin (fun x y => x + y) 37))))))) (nd 54 pc (nd 44 pc (nd 41 pc (nd 38 pc (lf 37 pc (oIAL 38)) (nd 40 pc (lf 38 pc (oCst 10 40)) (lf 40 pc (oDiv (fun x y => x % y) 41)))) (nd 42 pc (lf 41 pc (oISt 2 42)) (nd 43 pc (lf 42 pc (oALd 0 43)) (lf 43 pc (oILd 1 44))))) (nd 51 pc (nd 45 pc (lf 44 pc (oILd 2 45)) (nd 48 pc (lf 45 pc (oCaV 3 5 S_X5_areTwo 48)) (lf 48 pc (oIfEq 71 51)))) (nd 52 pc (lf 51 pc (oALd 0 52)) (nd 53 pc (lf 52 pc (oILd 1 53)) (lf 53 pc (oCst 5 54)))))) (nd 64 pc (nd 61 pc (nd 57 pc (lf 54 pc (oCaV 3 5 S_X5_disputantIs 57)) (nd 58 pc (lf 57 pc (oCst 1 58)) (lf 58 pc (oCpEq 71 61)))) (nd 62 pc (lf 61 pc (oALd 0 62)) (nd 63 pc (lf 62 pc (oILd 2 63)) (lf 63 pc (oCst 5 64))))) (nd 71 pc (nd 67 pc (lf 64 pc (oCaV 3 5 S_X5_disputantIs 67)) (nd 68 pc (lf 67 pc (oCst 1 68)) (lf 68 pc (oCpEq 71 75)))) (nd 75 pc (nd 72 pc (lf 71 pc (oCst 1 72)) (lf 72 pc (oGo 76))) (nd 76 pc (lf 75 pc (oCst 0 76)) (lf 76 pc (oZRet)))))))
theorem ok_X5_fallsOut {l : Launch} {G : Gm} : ∀ pc, OkU (TXm l G (rmD 4) 3 cX5_fallsOut RX5) (RXm l G (rmD 4) 3 cX5_fallsOut RX5 (some .boolean)) pc (P_X5_fallsOut pc) := fun pc => ok_nd (ok_nd (ok_nd (ok_nd (ok_nd (ok_lf (ok_ALdn d_X5_fallsOut_0 rfl rfl)) (ok_nd (ok_lf (ok_GetR (by decide) (by decide) rfl d_X5_fallsOut_1 q703 rfl)) (ok_lf (ok_BCst d_X5_fallsOut_4 (by decide) rfl)))) (ok_nd (ok_lf (ok_ALdn d_X5_fallsOut_6 rfl rfl)) (ok_nd (ok_lf (ok_GetR (by decide) (by decide) rfl d_X5_fallsOut_7 q703 rfl)) (ok_lf (ok_ICst d_X5_fallsOut_10 (by decide) rfl))))) (ok_nd (ok_nd (ok_lf (ok_IAL d_X5_fallsOut_11 rfl)) (ok_nd (ok_lf (ok_BCst d_X5_fallsOut_12 (by decide) rfl)) (ok_lf (ok_irem d_X5_fallsOut_14 rfl)))) (ok_nd (ok_lf (ok_iadd d_X5_fallsOut_15 rfl)) (ok_nd (ok_lf (ok_IAL d_X5_fallsOut_16 rfl)) (ok_lf (ok_BCst d_X5_fallsOut_17 (by decide) rfl)))))) (ok_nd (ok_nd (ok_nd (ok_lf (ok_idiv d_X5_fallsOut_19 rfl)) (ok_nd (ok_lf (ok_IStn d_X5_fallsOut_20 rfl rfl)) (ok_lf (ok_ALdn d_X5_fallsOut_21 rfl rfl)))) (ok_nd (ok_lf (ok_GetR (by decide) (by decide) rfl d_X5_fallsOut_22 q703 rfl)) (ok_nd (ok_lf (ok_BCst d_X5_fallsOut_25 (by decide) rfl)) (ok_lf (ok_ALdn d_X5_fallsOut_27 rfl rfl))))) (ok_nd (ok_nd (ok_lf (ok_GetR (by decide) (by decide) rfl d_X5_fallsOut_28 q703 rfl)) (ok_nd (ok_lf (ok_ICst d_X5_fallsOut_31 (by decide) rfl)) (ok_lf (ok_IAL d_X5_fallsOut_32 rfl)))) (ok_nd (ok_lf (ok_BCst d_X5_fallsOut_33 (by decide) rfl)) (ok_nd (ok_lf (ok_irem d_X5_fallsOut_35 rfl)) (ok_lf (ok_iadd d_X5_fallsOut_36 rfl))))))) (ok_nd (ok_nd (ok_nd (ok_nd (ok_lf (ok_IAL d_X5_fallsOut_37 rfl)) (ok_nd (ok_lf (ok_BCst d_X5_fallsOut_38 (by decide) rfl)) (ok_lf (ok_irem d_X5_fallsOut_40 rfl)))) (ok_nd (ok_lf (ok_IStn d_X5_fallsOut_41 rfl rfl)) (ok_nd (ok_lf (ok_ALdn d_X5_fallsOut_42 rfl rfl)) (ok_lf (ok_ILdn d_X5_fallsOut_43 rfl rfl))))) (ok_nd (ok_nd (ok_lf (ok_ILdn d_X5_fallsOut_44 rfl rfl)) (ok_nd (ok_lf (ok_CaV su_X5_areTwo (by decide) rfl d_X5_fallsOut_45 q868 q870 z66 q6 q871 ⟨by decide +kernel, by decide +kernel, by decide +kernel⟩ ⟨by decide, by decide⟩ rfl)) (ok_lf (ok_IfEq d_X5_fallsOut_48 (by decide) rfl)))) (ok_nd (ok_lf (ok_ALdn d_X5_fallsOut_51 rfl rfl)) (ok_nd (ok_lf (ok_ILdn d_X5_fallsOut_52 rfl rfl)) (ok_lf (ok_ICst d_X5_fallsOut_53 (by decide) rfl)))))) (ok_nd (ok_nd (ok_nd (ok_lf (ok_CaV su_X5_disputantIs (by decide) rfl d_X5_fallsOut_54 q835 q837 z61 q6 q838 ⟨by decide +kernel, by decide +kernel, by decide +kernel⟩ ⟨by decide, by decide⟩ rfl)) (ok_nd (ok_lf (ok_ICst d_X5_fallsOut_57 (by decide) rfl)) (ok_lf (ok_CpEq d_X5_fallsOut_58 (by decide) rfl)))) (ok_nd (ok_lf (ok_ALdn d_X5_fallsOut_61 rfl rfl)) (ok_nd (ok_lf (ok_ILdn d_X5_fallsOut_62 rfl rfl)) (ok_lf (ok_ICst d_X5_fallsOut_63 (by decide) rfl))))) (ok_nd (ok_nd (ok_lf (ok_CaV su_X5_disputantIs (by decide) rfl d_X5_fallsOut_64 q835 q837 z61 q6 q838 ⟨by decide +kernel, by decide +kernel, by decide +kernel⟩ ⟨by decide, by decide⟩ rfl)) (ok_nd (ok_lf (ok_ICst d_X5_fallsOut_67 (by decide) rfl)) (ok_lf (ok_CpNe d_X5_fallsOut_68 (by decide) rfl)))) (ok_nd (ok_nd (ok_lf (ok_ICst d_X5_fallsOut_71 (by decide) rfl)) (ok_lf (ok_Go d_X5_fallsOut_72 (by decide)))) (ok_nd (ok_lf (ok_ICst d_X5_fallsOut_75 (by decide) rfl)) (ok_lf (ok_ZRet d_X5_fallsOut_76)))))))
noncomputable def S_X5_fallsOut : Sem := lockS (inl P_X5_fallsOut 51 3) 0
theorem su_X5_fallsOut {l : Launch} {G : Gm} : SemU l G yX5_fallsOut (wsOf yX5_fallsOut cX5_fallsOut 3 (some .boolean)) 4 S_X5_fallsOut := sem_lock (sem_inl 51 (by decide +kernel) rfl ok_X5_fallsOut)
theorem d_X5_more_0 : decode cX5_more 0 = .ok (.aload_n 0, 1) := by decide +kernel
theorem d_X5_more_1 : decode cX5_more 1 = .ok (.getfield 9, 3) := by decide +kernel
theorem d_X5_more_4 : decode cX5_more 4 = .ok (.iload_n 1, 1) := by decide +kernel
theorem d_X5_more_5 : decode cX5_more 5 = .ok (.iload_n 3, 1) := by decide +kernel
theorem d_X5_more_6 : decode cX5_more 6 = .ok (.aload_n 0, 1) := by decide +kernel
theorem d_X5_more_7 : decode cX5_more 7 = .ok (.getfield 9, 3) := by decide +kernel
theorem d_X5_more_10 : decode cX5_more 10 = .ok (.iload_n 1, 1) := by decide +kernel
theorem d_X5_more_11 : decode cX5_more 11 = .ok (.iaload, 1) := by decide +kernel
theorem d_X5_more_12 : decode cX5_more 12 = .ok (.iload_n 2, 1) := by decide +kernel
theorem d_X5_more_13 : decode cX5_more 13 = .ok (.iadd, 1) := by decide +kernel
theorem d_X5_more_14 : decode cX5_more 14 = .ok (.invokestatic 98, 3) := by decide +kernel
theorem d_X5_more_17 : decode cX5_more 17 = .ok (.iastore, 1) := by decide +kernel
theorem d_X5_more_18 : decode cX5_more 18 = .ok (.return_, 1) := by decide +kernel
noncomputable def P_X5_more : Nat → Op := fun pc => nd 10 pc (nd 5 pc (nd 1 pc (lf 0 pc (oALd 0 1)) (nd 4 pc (lf 1 pc (oGetR 5 0 4)) (lf 4 pc (oILd 1 5)))) (nd 6 pc (lf 5 pc (oILd 3 6)) (nd 7 pc (lf 6 pc (oALd 0 7)) (lf 7 pc (oGetR 5 0 10))))) (nd 13 pc (nd 11 pc (lf 10 pc (oILd 1 11)) (nd 12 pc (lf 11 pc (oIAL 12)) (lf 12 pc (oILd 2 13)))) (nd 17 pc (nd 14 pc (lf 13 pc (oBin (fun x y => x + y) 14)) (lf 14 pc (oMin 17))) (nd 18 pc (lf 17 pc (oIAS 18)) (lf 18 pc (oVRet)))))
theorem ok_X5_more {l : Launch} {G : Gm} : ∀ pc, OkU (TXm l G (rmD 1) 4 cX5_more RX5) (RXm l G (rmD 1) 4 cX5_more RX5 none) pc (P_X5_more pc) := fun pc => ok_nd (ok_nd (ok_nd (ok_lf (ok_ALdn d_X5_more_0 rfl rfl)) (ok_nd (ok_lf (ok_GetR (by decide) (by decide) rfl d_X5_more_1 q703 rfl)) (ok_lf (ok_ILdn d_X5_more_4 rfl rfl)))) (ok_nd (ok_lf (ok_ILdn d_X5_more_5 rfl rfl)) (ok_nd (ok_lf (ok_ALdn d_X5_more_6 rfl rfl)) (ok_lf (ok_GetR (by decide) (by decide) rfl d_X5_more_7 q703 rfl))))) (ok_nd (ok_nd (ok_lf (ok_ILdn d_X5_more_10 rfl rfl)) (ok_nd (ok_lf (ok_IAL d_X5_more_11 rfl)) (ok_lf (ok_ILdn d_X5_more_12 rfl rfl)))) (ok_nd (ok_nd (ok_lf (ok_iadd d_X5_more_13 rfl)) (ok_lf (ok_Min d_X5_more_14 q839 q247 q7 q248 ⟨by decide, by decide⟩ rfl))) (ok_nd (ok_lf (ok_IAS d_X5_more_17 rfl)) (ok_lf (ok_VRet d_X5_more_18)))))
noncomputable def S_X5_more : Sem := lockS (inl P_X5_more 15 4) 0
theorem su_X5_more {l : Launch} {G : Gm} : SemU l G yX5_more (wsOf yX5_more cX5_more 4 none) 1 S_X5_more := sem_lock (sem_inl 15 (by decide +kernel) rfl ok_X5_more)
theorem d_X5_settles_0 : decode cX5_settles 0 = .ok (.aload_n 0, 1) := by decide +kernel
theorem d_X5_settles_1 : decode cX5_settles 1 = .ok (.iload_n 1, 1) := by decide +kernel
theorem d_X5_settles_2 : decode cX5_settles 2 = .ok (.iload_n 2, 1) := by decide +kernel
theorem d_X5_settles_3 : decode cX5_settles 3 = .ok (.invokevirtual 137, 3) := by decide +kernel
theorem d_X5_settles_6 : decode cX5_settles 6 = .ok (.istore_n 3, 1) := by decide +kernel
theorem d_X5_settles_7 : decode cX5_settles 7 = .ok (.iload_n 3, 1) := by decide +kernel
theorem d_X5_settles_8 : decode cX5_settles 8 = .ok (.ifCond .ge 15, 3) := by decide +kernel
theorem d_X5_settles_11 : decode cX5_settles 11 = .ok (.aload_n 0, 1) := by decide +kernel
theorem d_X5_settles_12 : decode cX5_settles 12 = .ok (.iconst 5, 1) := by decide +kernel
theorem d_X5_settles_13 : decode cX5_settles 13 = .ok (.iconst 1, 1) := by decide +kernel
theorem d_X5_settles_14 : decode cX5_settles 14 = .ok (.sipush 9999, 3) := by decide +kernel
theorem d_X5_settles_17 : decode cX5_settles 17 = .ok (.invokevirtual 143, 3) := by decide +kernel
theorem d_X5_settles_20 : decode cX5_settles 20 = .ok (.goto 78, 3) := by decide +kernel
theorem d_X5_settles_23 : decode cX5_settles 23 = .ok (.aload_n 0, 1) := by decide +kernel
theorem d_X5_settles_24 : decode cX5_settles 24 = .ok (.iload_n 3, 1) := by decide +kernel
theorem d_X5_settles_25 : decode cX5_settles 25 = .ok (.invokevirtual 112, 3) := by decide +kernel
theorem d_X5_settles_28 : decode cX5_settles 28 = .ok (.istore 4, 2) := by decide +kernel
theorem d_X5_settles_30 : decode cX5_settles 30 = .ok (.aload_n 0, 1) := by decide +kernel
theorem d_X5_settles_31 : decode cX5_settles 31 = .ok (.iload_n 3, 1) := by decide +kernel
theorem d_X5_settles_32 : decode cX5_settles 32 = .ok (.invokevirtual 115, 3) := by decide +kernel
theorem d_X5_settles_35 : decode cX5_settles 35 = .ok (.istore 5, 2) := by decide +kernel
theorem d_X5_settles_37 : decode cX5_settles 37 = .ok (.aload_n 0, 1) := by decide +kernel
theorem d_X5_settles_38 : decode cX5_settles 38 = .ok (.iload_n 3, 1) := by decide +kernel
theorem d_X5_settles_39 : decode cX5_settles 39 = .ok (.iconst 3, 1) := by decide +kernel
theorem d_X5_settles_40 : decode cX5_settles 40 = .ok (.invokestatic 85, 3) := by decide +kernel
theorem d_X5_settles_43 : decode cX5_settles 43 = .ok (.iconst 1, 1) := by decide +kernel
theorem d_X5_settles_44 : decode cX5_settles 44 = .ok (.sipush 9999, 3) := by decide +kernel
theorem d_X5_settles_47 : decode cX5_settles 47 = .ok (.invokevirtual 143, 3) := by decide +kernel
theorem d_X5_settles_50 : decode cX5_settles 50 = .ok (.aload_n 0, 1) := by decide +kernel
theorem d_X5_settles_51 : decode cX5_settles 51 = .ok (.iload_n 3, 1) := by decide +kernel
theorem d_X5_settles_52 : decode cX5_settles 52 = .ok (.iconst 2, 1) := by decide +kernel
theorem d_X5_settles_53 : decode cX5_settles 53 = .ok (.invokestatic 85, 3) := by decide +kernel
theorem d_X5_settles_56 : decode cX5_settles 56 = .ok (.iload 4, 2) := by decide +kernel
theorem d_X5_settles_58 : decode cX5_settles 58 = .ok (.bipush 99, 2) := by decide +kernel
theorem d_X5_settles_60 : decode cX5_settles 60 = .ok (.invokevirtual 143, 3) := by decide +kernel
theorem d_X5_settles_63 : decode cX5_settles 63 = .ok (.aload_n 0, 1) := by decide +kernel
theorem d_X5_settles_64 : decode cX5_settles 64 = .ok (.iload_n 3, 1) := by decide +kernel
theorem d_X5_settles_65 : decode cX5_settles 65 = .ok (.iconst 1, 1) := by decide +kernel
theorem d_X5_settles_66 : decode cX5_settles 66 = .ok (.invokestatic 85, 3) := by decide +kernel
theorem d_X5_settles_69 : decode cX5_settles 69 = .ok (.iload 5, 2) := by decide +kernel
theorem d_X5_settles_71 : decode cX5_settles 71 = .ok (.bipush 99, 2) := by decide +kernel
theorem d_X5_settles_73 : decode cX5_settles 73 = .ok (.invokevirtual 143, 3) := by decide +kernel
theorem d_X5_settles_76 : decode cX5_settles 76 = .ok (.aload_n 0, 1) := by decide +kernel
theorem d_X5_settles_77 : decode cX5_settles 77 = .ok (.iload_n 3, 1) := by decide +kernel
theorem d_X5_settles_78 : decode cX5_settles 78 = .ok (.iload_n 1, 1) := by decide +kernel
theorem d_X5_settles_79 : decode cX5_settles 79 = .ok (.if_icmp .ne 7, 3) := by decide +kernel
theorem d_X5_settles_82 : decode cX5_settles 82 = .ok (.iload_n 2, 1) := by decide +kernel
theorem d_X5_settles_83 : decode cX5_settles 83 = .ok (.goto 4, 3) := by decide +kernel
theorem d_X5_settles_86 : decode cX5_settles 86 = .ok (.iload_n 1, 1) := by decide +kernel
theorem d_X5_settles_87 : decode cX5_settles 87 = .ok (.iconst 4, 1) := by decide +kernel
theorem d_X5_settles_88 : decode cX5_settles 88 = .ok (.invokestatic 85, 3) := by decide +kernel
theorem d_X5_settles_91 : decode cX5_settles 91 = .ok (.iconst 1, 1) := by decide +kernel
theorem d_X5_settles_92 : decode cX5_settles 92 = .ok (.sipush 9999, 3) := by decide +kernel
theorem d_X5_settles_95 : decode cX5_settles 95 = .ok (.invokevirtual 143, 3) := by decide +kernel
theorem d_X5_settles_98 : decode cX5_settles 98 = .ok (.return_, 1) := by decide +kernel
noncomputable def P_X5_settles : Nat → Op := fun pc => nd 47 pc (nd 23 pc (nd 8 pc (nd 3 pc (nd 1 pc (lf 0 pc (oALd 0 1)) (nd 2 pc (lf 1 pc (oILd 1 2)) (lf 2 pc (oILd 2 3)))) (nd 6 pc (lf 3 pc (oCaV 3 5 S_X5_fallsFor 6)) (nd 7 pc (lf 6 pc (oISt 3 7)) (lf 7 pc (oILd 3 8))))) (nd 13 pc (nd 11 pc (lf 8 pc (oIfLt 11 23)) (nd 12 pc (lf 11 pc (oALd 0 12)) (lf 12 pc (oCst 5 13)))) (nd 17 pc (nd 14 pc (lf 13 pc (oCst 1 14)) (lf 14 pc (oCst 9999 17))) (nd 20 pc (lf 17 pc (oCaV 4 5 S_X5_more 20)) (lf 20 pc (oGo 98)))))) (nd 35 pc (nd 28 pc (nd 24 pc (lf 23 pc (oALd 0 24)) (nd 25 pc (lf 24 pc (oILd 3 25)) (lf 25 pc (oCaV 2 5 S_X5_grows 28)))) (nd 31 pc (nd 30 pc (lf 28 pc (oISt 4 30)) (lf 30 pc (oALd 0 31))) (nd 32 pc (lf 31 pc (oILd 3 32)) (lf 32 pc (oCaV 2 5 S_X5_learns 35))))) (nd 39 pc (nd 37 pc (lf 35 pc (oISt 5 37)) (nd 38 pc (lf 37 pc (oALd 0 38)) (lf 38 pc (oILd 3 39)))) (nd 43 pc (nd 40 pc (lf 39 pc (oCst 3 40)) (lf 40 pc (oCaS 2 S_X5_disputantAt 43))) (nd 44 pc (lf 43 pc (oCst 1 44)) (lf 44 pc (oCst 9999 47))))))) (nd 73 pc (nd 60 pc (nd 52 pc (nd 50 pc (lf 47 pc (oCaV 4 5 S_X5_more 50)) (nd 51 pc (lf 50 pc (oALd 0 51)) (lf 51 pc (oILd 3 52)))) (nd 56 pc (nd 53 pc (lf 52 pc (oCst 2 53)) (lf 53 pc (oCaS 2 S_X5_disputantAt 56))) (nd 58 pc (lf 56 pc (oILd 4 58)) (lf 58 pc (oCst 99 60))))) (nd 65 pc (nd 63 pc (lf 60 pc (oCaV 4 5 S_X5_more 63)) (nd 64 pc (lf 63 pc (oALd 0 64)) (lf 64 pc (oILd 3 65)))) (nd 69 pc (nd 66 pc (lf 65 pc (oCst 1 66)) (lf 66 pc (oCaS 2 S_X5_disputantAt 69))) (nd 71 pc (lf 69 pc (oILd 5 71)) (lf 71 pc (oCst 99 73)))))) (nd 86 pc (nd 78 pc (nd 76 pc (lf 73 pc (oCaV 4 5 S_X5_more 76)) (nd 77 pc (lf 76 pc (oALd 0 77)) (lf 77 pc (oILd 3 78)))) (nd 82 pc (nd 79 pc (lf 78 pc (oILd 1 79)) (lf 79 pc (oCpEq 82 86))) (nd 83 pc (lf 82 pc (oILd 2 83)) (lf 83 pc (oGo 87))))) (nd 91 pc (nd 87 pc (lf 86 pc (oILd 1 87)) (nd 88 pc (lf 87 pc (oCst 4 88)) (lf 88 pc (oCaS 2 S_X5_disputantAt 91)))) (nd 95 pc (nd 92 pc (lf 91 pc (oCst 1 92)) (lf 92 pc (oCst 9999 95))) (nd 98 pc (lf 95 pc (oCaV 4 5 S_X5_more 98)) (lf 98 pc (oVRet)))))))
theorem ok_X5_settles {l : Launch} {G : Gm} : ∀ pc, OkU (TXm l G (rmD 6) 6 cX5_settles RX5) (RXm l G (rmD 6) 6 cX5_settles RX5 none) pc (P_X5_settles pc) := fun pc => ok_nd (ok_nd (ok_nd (ok_nd (ok_nd (ok_lf (ok_ALdn d_X5_settles_0 rfl rfl)) (ok_nd (ok_lf (ok_ILdn d_X5_settles_1 rfl rfl)) (ok_lf (ok_ILdn d_X5_settles_2 rfl rfl)))) (ok_nd (ok_lf (ok_CaV su_X5_fallsFor (by decide) rfl d_X5_settles_3 q880 q882 z68 q6 q883 ⟨by decide +kernel, by decide +kernel, by decide +kernel⟩ ⟨by decide, by decide⟩ rfl)) (ok_nd (ok_lf (ok_IStn d_X5_settles_6 rfl rfl)) (ok_lf (ok_ILdn d_X5_settles_7 rfl rfl))))) (ok_nd (ok_nd (ok_lf (ok_IfGe d_X5_settles_8 (by decide) rfl)) (ok_nd (ok_lf (ok_ALdn d_X5_settles_11 rfl rfl)) (ok_lf (ok_ICst d_X5_settles_12 (by decide) rfl)))) (ok_nd (ok_nd (ok_lf (ok_ICst d_X5_settles_13 (by decide) rfl)) (ok_lf (ok_SCst d_X5_settles_14 (by decide) rfl))) (ok_nd (ok_lf (ok_CaV su_X5_more (by decide) rfl d_X5_settles_17 q911 q913 z74 q6 q914 ⟨by decide +kernel, by decide +kernel, by decide +kernel⟩ ⟨by decide, by decide⟩ rfl)) (ok_lf (ok_Go d_X5_settles_20 (by decide))))))) (ok_nd (ok_nd (ok_nd (ok_lf (ok_ALdn d_X5_settles_23 rfl rfl)) (ok_nd (ok_lf (ok_ILdn d_X5_settles_24 rfl rfl)) (ok_lf (ok_CaV su_X5_grows (by decide) rfl d_X5_settles_25 q845 q847 z63 q6 q848 ⟨by decide +kernel, by decide +kernel, by decide +kernel⟩ ⟨by decide, by decide⟩ rfl)))) (ok_nd (ok_nd (ok_lf (ok_ISt d_X5_settles_28 rfl)) (ok_lf (ok_ALdn d_X5_settles_30 rfl rfl))) (ok_nd (ok_lf (ok_ILdn d_X5_settles_31 rfl rfl)) (ok_lf (ok_CaV su_X5_learns (by decide) rfl d_X5_settles_32 q849 q851 z64 q6 q852 ⟨by decide +kernel, by decide +kernel, by decide +kernel⟩ ⟨by decide, by decide⟩ rfl))))) (ok_nd (ok_nd (ok_lf (ok_ISt d_X5_settles_35 rfl)) (ok_nd (ok_lf (ok_ALdn d_X5_settles_37 rfl rfl)) (ok_lf (ok_ILdn d_X5_settles_38 rfl rfl)))) (ok_nd (ok_nd (ok_lf (ok_ICst d_X5_settles_39 (by decide) rfl)) (ok_lf (ok_CaS su_X5_disputantAt d_X5_settles_40 q816 q817 q6 q818 ⟨by decide +kernel, by decide +kernel, by decide +kernel⟩ ⟨by decide, by decide⟩ rfl))) (ok_nd (ok_lf (ok_ICst d_X5_settles_43 (by decide) rfl)) (ok_lf (ok_SCst d_X5_settles_44 (by decide) rfl))))))) (ok_nd (ok_nd (ok_nd (ok_nd (ok_lf (ok_CaV su_X5_more (by decide) rfl d_X5_settles_47 q911 q913 z74 q6 q914 ⟨by decide +kernel, by decide +kernel, by decide +kernel⟩ ⟨by decide, by decide⟩ rfl)) (ok_nd (ok_lf (ok_ALdn d_X5_settles_50 rfl rfl)) (ok_lf (ok_ILdn d_X5_settles_51 rfl rfl)))) (ok_nd (ok_nd (ok_lf (ok_ICst d_X5_settles_52 (by decide) rfl)) (ok_lf (ok_CaS su_X5_disputantAt d_X5_settles_53 q816 q817 q6 q818 ⟨by decide +kernel, by decide +kernel, by decide +kernel⟩ ⟨by decide, by decide⟩ rfl))) (ok_nd (ok_lf (ok_ILd d_X5_settles_56 rfl)) (ok_lf (ok_BCst d_X5_settles_58 (by decide) rfl))))) (ok_nd (ok_nd (ok_lf (ok_CaV su_X5_more (by decide) rfl d_X5_settles_60 q911 q913 z74 q6 q914 ⟨by decide +kernel, by decide +kernel, by decide +kernel⟩ ⟨by decide, by decide⟩ rfl)) (ok_nd (ok_lf (ok_ALdn d_X5_settles_63 rfl rfl)) (ok_lf (ok_ILdn d_X5_settles_64 rfl rfl)))) (ok_nd (ok_nd (ok_lf (ok_ICst d_X5_settles_65 (by decide) rfl)) (ok_lf (ok_CaS su_X5_disputantAt d_X5_settles_66 q816 q817 q6 q818 ⟨by decide +kernel, by decide +kernel, by decide +kernel⟩ ⟨by decide, by decide⟩ rfl))) (ok_nd (ok_lf (ok_ILd d_X5_settles_69 rfl)) (ok_lf (ok_BCst d_X5_settles_71 (by decide) rfl)))))) (ok_nd (ok_nd (ok_nd (ok_lf (ok_CaV su_X5_more (by decide) rfl d_X5_settles_73 q911 q913 z74 q6 q914 ⟨by decide +kernel, by decide +kernel, by decide +kernel⟩ ⟨by decide, by decide⟩ rfl)) (ok_nd (ok_lf (ok_ALdn d_X5_settles_76 rfl rfl)) (ok_lf (ok_ILdn d_X5_settles_77 rfl rfl)))) (ok_nd (ok_nd (ok_lf (ok_ILdn d_X5_settles_78 rfl rfl)) (ok_lf (ok_CpNe d_X5_settles_79 (by decide) rfl))) (ok_nd (ok_lf (ok_ILdn d_X5_settles_82 rfl rfl)) (ok_lf (ok_Go d_X5_settles_83 (by decide)))))) (ok_nd (ok_nd (ok_lf (ok_ILdn d_X5_settles_86 rfl rfl)) (ok_nd (ok_lf (ok_ICst d_X5_settles_87 (by decide) rfl)) (ok_lf (ok_CaS su_X5_disputantAt d_X5_settles_88 q816 q817 q6 q818 ⟨by decide +kernel, by decide +kernel, by decide +kernel⟩ ⟨by decide, by decide⟩ rfl)))) (ok_nd (ok_nd (ok_lf (ok_ICst d_X5_settles_91 (by decide) rfl)) (ok_lf (ok_SCst d_X5_settles_92 (by decide) rfl))) (ok_nd (ok_lf (ok_CaV su_X5_more (by decide) rfl d_X5_settles_95 q911 q913 z74 q6 q914 ⟨by decide +kernel, by decide +kernel, by decide +kernel⟩ ⟨by decide, by decide⟩ rfl)) (ok_lf (ok_VRet d_X5_settles_98)))))))
noncomputable def S_X5_settles : Sem := lockS (inl P_X5_settles 57 6) 0
theorem su_X5_settles {l : Launch} {G : Gm} : SemU l G yX5_settles (wsOf yX5_settles cX5_settles 6 none) 6 S_X5_settles := sem_lock (sem_inl 57 (by decide +kernel) rfl ok_X5_settles)
theorem d_X5_drop_0 : decode cX5_drop 0 = .ok (.aload_n 0, 1) := by decide +kernel
theorem d_X5_drop_1 : decode cX5_drop 1 = .ok (.invokevirtual 147, 3) := by decide +kernel
theorem d_X5_drop_4 : decode cX5_drop 4 = .ok (.ifCond .ne 33, 3) := by decide +kernel
theorem d_X5_drop_7 : decode cX5_drop 7 = .ok (.aload_n 0, 1) := by decide +kernel
theorem d_X5_drop_8 : decode cX5_drop 8 = .ok (.getfield 9, 3) := by decide +kernel
theorem d_X5_drop_11 : decode cX5_drop 11 = .ok (.bipush 6, 2) := by decide +kernel
theorem d_X5_drop_13 : decode cX5_drop 13 = .ok (.aload_n 0, 1) := by decide +kernel
theorem d_X5_drop_14 : decode cX5_drop 14 = .ok (.getfield 9, 3) := by decide +kernel
theorem d_X5_drop_17 : decode cX5_drop 17 = .ok (.iconst 0, 1) := by decide +kernel
theorem d_X5_drop_18 : decode cX5_drop 18 = .ok (.iaload, 1) := by decide +kernel
theorem d_X5_drop_19 : decode cX5_drop 19 = .ok (.bipush 6, 2) := by decide +kernel
theorem d_X5_drop_21 : decode cX5_drop 21 = .ok (.irem, 1) := by decide +kernel
theorem d_X5_drop_22 : decode cX5_drop 22 = .ok (.iadd, 1) := by decide +kernel
theorem d_X5_drop_23 : decode cX5_drop 23 = .ok (.iaload, 1) := by decide +kernel
theorem d_X5_drop_24 : decode cX5_drop 24 = .ok (.istore_n 1, 1) := by decide +kernel
theorem d_X5_drop_25 : decode cX5_drop 25 = .ok (.aload_n 0, 1) := by decide +kernel
theorem d_X5_drop_26 : decode cX5_drop 26 = .ok (.iload_n 1, 1) := by decide +kernel
theorem d_X5_drop_27 : decode cX5_drop 27 = .ok (.bipush 10, 2) := by decide +kernel
theorem d_X5_drop_29 : decode cX5_drop 29 = .ok (.idiv, 1) := by decide +kernel
theorem d_X5_drop_30 : decode cX5_drop 30 = .ok (.iload_n 1, 1) := by decide +kernel
theorem d_X5_drop_31 : decode cX5_drop 31 = .ok (.bipush 10, 2) := by decide +kernel
theorem d_X5_drop_33 : decode cX5_drop 33 = .ok (.irem, 1) := by decide +kernel
theorem d_X5_drop_34 : decode cX5_drop 34 = .ok (.invokevirtual 151, 3) := by decide +kernel
theorem d_X5_drop_37 : decode cX5_drop 37 = .ok (.iconst 0, 1) := by decide +kernel
theorem d_X5_drop_38 : decode cX5_drop 38 = .ok (.istore_n 1, 1) := by decide +kernel
theorem d_X5_drop_39 : decode cX5_drop 39 = .ok (.iload_n 1, 1) := by decide +kernel
theorem d_X5_drop_40 : decode cX5_drop 40 = .ok (.aload_n 0, 1) := by decide +kernel
theorem d_X5_drop_41 : decode cX5_drop 41 = .ok (.getfield 9, 3) := by decide +kernel
theorem d_X5_drop_44 : decode cX5_drop 44 = .ok (.iconst 1, 1) := by decide +kernel
theorem d_X5_drop_45 : decode cX5_drop 45 = .ok (.iaload, 1) := by decide +kernel
theorem d_X5_drop_46 : decode cX5_drop 46 = .ok (.if_icmp .ge 35, 3) := by decide +kernel
theorem d_X5_drop_49 : decode cX5_drop 49 = .ok (.aload_n 0, 1) := by decide +kernel
theorem d_X5_drop_50 : decode cX5_drop 50 = .ok (.getfield 9, 3) := by decide +kernel
theorem d_X5_drop_53 : decode cX5_drop 53 = .ok (.iload_n 1, 1) := by decide +kernel
theorem d_X5_drop_54 : decode cX5_drop 54 = .ok (.iconst 2, 1) := by decide +kernel
theorem d_X5_drop_55 : decode cX5_drop 55 = .ok (.invokestatic 85, 3) := by decide +kernel
theorem d_X5_drop_58 : decode cX5_drop 58 = .ok (.iconst 0, 1) := by decide +kernel
theorem d_X5_drop_59 : decode cX5_drop 59 = .ok (.aload_n 0, 1) := by decide +kernel
theorem d_X5_drop_60 : decode cX5_drop 60 = .ok (.iload_n 1, 1) := by decide +kernel
theorem d_X5_drop_61 : decode cX5_drop 61 = .ok (.iconst 2, 1) := by decide +kernel
theorem d_X5_drop_62 : decode cX5_drop 62 = .ok (.invokevirtual 95, 3) := by decide +kernel
theorem d_X5_drop_65 : decode cX5_drop 65 = .ok (.aload_n 0, 1) := by decide +kernel
theorem d_X5_drop_66 : decode cX5_drop 66 = .ok (.iload_n 1, 1) := by decide +kernel
theorem d_X5_drop_67 : decode cX5_drop 67 = .ok (.invokevirtual 118, 3) := by decide +kernel
theorem d_X5_drop_70 : decode cX5_drop 70 = .ok (.isub, 1) := by decide +kernel
theorem d_X5_drop_71 : decode cX5_drop 71 = .ok (.invokestatic 103, 3) := by decide +kernel
theorem d_X5_drop_74 : decode cX5_drop 74 = .ok (.iastore, 1) := by decide +kernel
theorem d_X5_drop_75 : decode cX5_drop 75 = .ok (.iinc 1 1, 3) := by decide +kernel
theorem d_X5_drop_78 : decode cX5_drop 78 = .ok (.goto (-39), 3) := by decide +kernel
theorem d_X5_drop_81 : decode cX5_drop 81 = .ok (.aload_n 0, 1) := by decide +kernel
theorem d_X5_drop_82 : decode cX5_drop 82 = .ok (.getfield 9, 3) := by decide +kernel
theorem d_X5_drop_85 : decode cX5_drop 85 = .ok (.iconst 0, 1) := by decide +kernel
theorem d_X5_drop_86 : decode cX5_drop 86 = .ok (.ldc 155, 2) := by decide +kernel
theorem d_X5_drop_88 : decode cX5_drop 88 = .ok (.aload_n 0, 1) := by decide +kernel
theorem d_X5_drop_89 : decode cX5_drop 89 = .ok (.getfield 9, 3) := by decide +kernel
theorem d_X5_drop_92 : decode cX5_drop 92 = .ok (.iconst 0, 1) := by decide +kernel
theorem d_X5_drop_93 : decode cX5_drop 93 = .ok (.iaload, 1) := by decide +kernel
theorem d_X5_drop_94 : decode cX5_drop 94 = .ok (.iconst 1, 1) := by decide +kernel
theorem d_X5_drop_95 : decode cX5_drop 95 = .ok (.iadd, 1) := by decide +kernel
theorem d_X5_drop_96 : decode cX5_drop 96 = .ok (.invokestatic 98, 3) := by decide +kernel
theorem d_X5_drop_99 : decode cX5_drop 99 = .ok (.iastore, 1) := by decide +kernel
theorem d_X5_drop_100 : decode cX5_drop 100 = .ok (.return_, 1) := by decide +kernel
noncomputable def P_X5_drop : Nat → Op := fun pc => nd 49 pc (nd 25 pc (nd 14 pc (nd 7 pc (nd 1 pc (lf 0 pc (oALd 0 1)) (nd 4 pc (lf 1 pc (oCaV 1 5 S_X5_fallsOut 4)) (lf 4 pc (oIfEq 7 37)))) (nd 11 pc (nd 8 pc (lf 7 pc (oALd 0 8)) (lf 8 pc (oGetR 5 0 11))) (nd 13 pc (lf 11 pc (oCst 6 13)) (lf 13 pc (oALd 0 14))))) (nd 21 pc (nd 18 pc (nd 17 pc (lf 14 pc (oGetR 5 0 17)) (lf 17 pc (oCst 0 18))) (nd 19 pc (lf 18 pc (oIAL 19)) (lf 19 pc (oCst 6 21)))) (nd 23 pc (nd 22 pc (lf 21 pc (oDiv (fun x y => x % y) 22)) (lf 22 pc (oBin (fun x y => x + y) 23))) (nd 24 pc (lf 23 pc (oIAL 24)) (lf 24 pc (oISt 1 25)))))) (nd 37 pc (nd 30 pc (nd 27 pc (nd 26 pc (lf 25 pc (oALd 0 26)) (lf 26 pc (oILd 1 27))) (nd 29 pc (lf 27 pc (oCst 10 29)) (lf 29 pc (oDiv (fun x y => x / y) 30)))) (nd 33 pc (nd 31 pc (lf 30 pc (oILd 1 31)) (lf 31 pc (oCst 10 33))) (nd 34 pc (lf 33 pc (oDiv (fun x y => x % y) 34)) (lf 34 pc (oCaV 3 5 S_X5_settles 37))))) (nd 41 pc (nd 39 pc (nd 38 pc (lf 37 pc (oCst 0 38)) (lf 38 pc (oISt 1 39))) (nd 40 pc (lf 39 pc (lockO (oILd 1 40) 0)) (lf 40 pc (oALd 0 41)))) (nd 45 pc (nd 44 pc (lf 41 pc (oGetR 5 0 44)) (lf 44 pc (oCst 1 45))) (nd 46 pc (lf 45 pc (oIAL 46)) (lf 46 pc (oCpLt 49 81))))))) (nd 74 pc (nd 60 pc (nd 54 pc (nd 50 pc (lf 49 pc (oALd 0 50)) (nd 53 pc (lf 50 pc (oGetR 5 0 53)) (lf 53 pc (oILd 1 54)))) (nd 58 pc (nd 55 pc (lf 54 pc (oCst 2 55)) (lf 55 pc (oCaS 2 S_X5_disputantAt 58))) (nd 59 pc (lf 58 pc (oCst 0 59)) (lf 59 pc (oALd 0 60))))) (nd 66 pc (nd 62 pc (nd 61 pc (lf 60 pc (oILd 1 61)) (lf 61 pc (oCst 2 62))) (nd 65 pc (lf 62 pc (oCaV 3 5 S_X5_disputantIs 65)) (lf 65 pc (oALd 0 66)))) (nd 70 pc (nd 67 pc (lf 66 pc (oILd 1 67)) (lf 67 pc (oCaV 2 5 S_X5_cools 70))) (nd 71 pc (lf 70 pc (oBin (fun x y => x - y) 71)) (lf 71 pc (oMax 74)))))) (nd 89 pc (nd 82 pc (nd 78 pc (nd 75 pc (lf 74 pc (oIAS 75)) (lf 75 pc (oInc 1 1 78))) (nd 81 pc (lf 78 pc (oGo 39)) (lf 81 pc (oALd 0 82)))) (nd 86 pc (nd 85 pc (lf 82 pc (oGetR 5 0 85)) (lf 85 pc (oCst 0 86))) (nd 88 pc (lf 86 pc (oCst (99999) 88)) (lf 88 pc (oALd 0 89))))) (nd 95 pc (nd 93 pc (nd 92 pc (lf 89 pc (oGetR 5 0 92)) (lf 92 pc (oCst 0 93))) (nd 94 pc (lf 93 pc (oIAL 94)) (lf 94 pc (oCst 1 95)))) (nd 99 pc (nd 96 pc (lf 95 pc (oBin (fun x y => x + y) 96)) (lf 96 pc (oMin 99))) (nd 100 pc (lf 99 pc (oIAS 100)) (lf 100 pc (oVRet)))))))
theorem ok_X5_drop {l : Launch} {G : Gm} : ∀ pc, OkU (TXm l G (rmD 7) 2 cX5_drop RX5) (RXm l G (rmD 7) 2 cX5_drop RX5 none) pc (P_X5_drop pc) := fun pc => ok_nd (ok_nd (ok_nd (ok_nd (ok_nd (ok_lf (ok_ALdn d_X5_drop_0 rfl rfl)) (ok_nd (ok_lf (ok_CaV su_X5_fallsOut (by decide) rfl d_X5_drop_1 q903 q905 z72 q6 q906 ⟨by decide +kernel, by decide +kernel, by decide +kernel⟩ ⟨by decide, by decide⟩ rfl)) (ok_lf (ok_IfNe d_X5_drop_4 (by decide) rfl)))) (ok_nd (ok_nd (ok_lf (ok_ALdn d_X5_drop_7 rfl rfl)) (ok_lf (ok_GetR (by decide) (by decide) rfl d_X5_drop_8 q703 rfl))) (ok_nd (ok_lf (ok_BCst d_X5_drop_11 (by decide) rfl)) (ok_lf (ok_ALdn d_X5_drop_13 rfl rfl))))) (ok_nd (ok_nd (ok_nd (ok_lf (ok_GetR (by decide) (by decide) rfl d_X5_drop_14 q703 rfl)) (ok_lf (ok_ICst d_X5_drop_17 (by decide) rfl))) (ok_nd (ok_lf (ok_IAL d_X5_drop_18 rfl)) (ok_lf (ok_BCst d_X5_drop_19 (by decide) rfl)))) (ok_nd (ok_nd (ok_lf (ok_irem d_X5_drop_21 rfl)) (ok_lf (ok_iadd d_X5_drop_22 rfl))) (ok_nd (ok_lf (ok_IAL d_X5_drop_23 rfl)) (ok_lf (ok_IStn d_X5_drop_24 rfl rfl)))))) (ok_nd (ok_nd (ok_nd (ok_nd (ok_lf (ok_ALdn d_X5_drop_25 rfl rfl)) (ok_lf (ok_ILdn d_X5_drop_26 rfl rfl))) (ok_nd (ok_lf (ok_BCst d_X5_drop_27 (by decide) rfl)) (ok_lf (ok_idiv d_X5_drop_29 rfl)))) (ok_nd (ok_nd (ok_lf (ok_ILdn d_X5_drop_30 rfl rfl)) (ok_lf (ok_BCst d_X5_drop_31 (by decide) rfl))) (ok_nd (ok_lf (ok_irem d_X5_drop_33 rfl)) (ok_lf (ok_CaV su_X5_settles (by decide) rfl d_X5_drop_34 q907 q909 z73 q6 q910 ⟨by decide +kernel, by decide +kernel, by decide +kernel⟩ ⟨by decide, by decide⟩ rfl))))) (ok_nd (ok_nd (ok_nd (ok_lf (ok_ICst d_X5_drop_37 (by decide) rfl)) (ok_lf (ok_IStn d_X5_drop_38 rfl rfl))) (ok_nd (ok_lf (ok_lk (ok_ILdn d_X5_drop_39 rfl rfl))) (ok_lf (ok_ALdn d_X5_drop_40 rfl rfl)))) (ok_nd (ok_nd (ok_lf (ok_GetR (by decide) (by decide) rfl d_X5_drop_41 q703 rfl)) (ok_lf (ok_ICst d_X5_drop_44 (by decide) rfl))) (ok_nd (ok_lf (ok_IAL d_X5_drop_45 rfl)) (ok_lf (ok_CpGe d_X5_drop_46 (by decide) rfl))))))) (ok_nd (ok_nd (ok_nd (ok_nd (ok_lf (ok_ALdn d_X5_drop_49 rfl rfl)) (ok_nd (ok_lf (ok_GetR (by decide) (by decide) rfl d_X5_drop_50 q703 rfl)) (ok_lf (ok_ILdn d_X5_drop_53 rfl rfl)))) (ok_nd (ok_nd (ok_lf (ok_ICst d_X5_drop_54 (by decide) rfl)) (ok_lf (ok_CaS su_X5_disputantAt d_X5_drop_55 q816 q817 q6 q818 ⟨by decide +kernel, by decide +kernel, by decide +kernel⟩ ⟨by decide, by decide⟩ rfl))) (ok_nd (ok_lf (ok_ICst d_X5_drop_58 (by decide) rfl)) (ok_lf (ok_ALdn d_X5_drop_59 rfl rfl))))) (ok_nd (ok_nd (ok_nd (ok_lf (ok_ILdn d_X5_drop_60 rfl rfl)) (ok_lf (ok_ICst d_X5_drop_61 (by decide) rfl))) (ok_nd (ok_lf (ok_CaV su_X5_disputantIs (by decide) rfl d_X5_drop_62 q835 q837 z61 q6 q838 ⟨by decide +kernel, by decide +kernel, by decide +kernel⟩ ⟨by decide, by decide⟩ rfl)) (ok_lf (ok_ALdn d_X5_drop_65 rfl rfl)))) (ok_nd (ok_nd (ok_lf (ok_ILdn d_X5_drop_66 rfl rfl)) (ok_lf (ok_CaV su_X5_cools (by decide) rfl d_X5_drop_67 q853 q855 z65 q6 q856 ⟨by decide +kernel, by decide +kernel, by decide +kernel⟩ ⟨by decide, by decide⟩ rfl))) (ok_nd (ok_lf (ok_isub d_X5_drop_70 rfl)) (ok_lf (ok_Max d_X5_drop_71 q840 q240 q7 q241 ⟨by decide, by decide⟩ rfl)))))) (ok_nd (ok_nd (ok_nd (ok_nd (ok_lf (ok_IAS d_X5_drop_74 rfl)) (ok_lf (ok_Inc d_X5_drop_75 (by decide) rfl))) (ok_nd (ok_lf (ok_Go d_X5_drop_78 (by decide))) (ok_lf (ok_ALdn d_X5_drop_81 rfl rfl)))) (ok_nd (ok_nd (ok_lf (ok_GetR (by decide) (by decide) rfl d_X5_drop_82 q703 rfl)) (ok_lf (ok_ICst d_X5_drop_85 (by decide) rfl))) (ok_nd (ok_lf (ok_Ldc d_X5_drop_86 q893 rfl)) (ok_lf (ok_ALdn d_X5_drop_88 rfl rfl))))) (ok_nd (ok_nd (ok_nd (ok_lf (ok_GetR (by decide) (by decide) rfl d_X5_drop_89 q703 rfl)) (ok_lf (ok_ICst d_X5_drop_92 (by decide) rfl))) (ok_nd (ok_lf (ok_IAL d_X5_drop_93 rfl)) (ok_lf (ok_ICst d_X5_drop_94 (by decide) rfl)))) (ok_nd (ok_nd (ok_lf (ok_iadd d_X5_drop_95 rfl)) (ok_lf (ok_Min d_X5_drop_96 q839 q247 q7 q248 ⟨by decide, by decide⟩ rfl))) (ok_nd (ok_lf (ok_IAS d_X5_drop_99 rfl)) (ok_lf (ok_VRet d_X5_drop_100)))))))
noncomputable def S_X5_drop : Sem := lockS (inl P_X5_drop 30000 2) 0
theorem su_X5_drop {l : Launch} {G : Gm} : SemU l G yX5_drop (wsOf yX5_drop cX5_drop 2 none) 7 S_X5_drop := sem_lock (sem_inl 30000 (by decide +kernel) rfl ok_X5_drop)
theorem d_X5_dropsGo_0 : decode cX5_dropsGo 0 = .ok (.iconst 0, 1) := by decide +kernel
theorem d_X5_dropsGo_1 : decode cX5_dropsGo 1 = .ok (.istore_n 2, 1) := by decide +kernel
theorem d_X5_dropsGo_2 : decode cX5_dropsGo 2 = .ok (.iload_n 2, 1) := by decide +kernel
theorem d_X5_dropsGo_3 : decode cX5_dropsGo 3 = .ok (.iload_n 1, 1) := by decide +kernel
theorem d_X5_dropsGo_4 : decode cX5_dropsGo 4 = .ok (.if_icmp .ge 13, 3) := by decide +kernel
theorem d_X5_dropsGo_7 : decode cX5_dropsGo 7 = .ok (.aload_n 0, 1) := by decide +kernel
theorem d_X5_dropsGo_8 : decode cX5_dropsGo 8 = .ok (.invokevirtual 156, 3) := by decide +kernel
theorem d_X5_dropsGo_11 : decode cX5_dropsGo 11 = .ok (.iinc 2 1, 3) := by decide +kernel
theorem d_X5_dropsGo_14 : decode cX5_dropsGo 14 = .ok (.goto (-12), 3) := by decide +kernel
theorem d_X5_dropsGo_17 : decode cX5_dropsGo 17 = .ok (.return_, 1) := by decide +kernel
noncomputable def P_X5_dropsGo : Nat → Op := fun pc => nd 7 pc (nd 2 pc (nd 1 pc (lf 0 pc (oCst 0 1)) (lf 1 pc (oISt 2 2))) (nd 3 pc (lf 2 pc (lockO (oILd 2 3) 0)) (nd 4 pc (lf 3 pc (oILd 1 4)) (lf 4 pc (oCpLt 7 17))))) (nd 11 pc (nd 8 pc (lf 7 pc (oALd 0 8)) (lf 8 pc (oCaV 1 5 S_X5_drop 11))) (nd 14 pc (lf 11 pc (oInc 2 1 14)) (nd 17 pc (lf 14 pc (oGo 2)) (lf 17 pc (oVRet)))))
theorem ok_X5_dropsGo {l : Launch} {G : Gm} : ∀ pc, OkU (TXm l G (rmD 8) 3 cX5_dropsGo RX5) (RXm l G (rmD 8) 3 cX5_dropsGo RX5 none) pc (P_X5_dropsGo pc) := fun pc => ok_nd (ok_nd (ok_nd (ok_lf (ok_ICst d_X5_dropsGo_0 (by decide) rfl)) (ok_lf (ok_IStn d_X5_dropsGo_1 rfl rfl))) (ok_nd (ok_lf (ok_lk (ok_ILdn d_X5_dropsGo_2 rfl rfl))) (ok_nd (ok_lf (ok_ILdn d_X5_dropsGo_3 rfl rfl)) (ok_lf (ok_CpGe d_X5_dropsGo_4 (by decide) rfl))))) (ok_nd (ok_nd (ok_lf (ok_ALdn d_X5_dropsGo_7 rfl rfl)) (ok_lf (ok_CaV su_X5_drop (by decide) rfl d_X5_dropsGo_8 q899 q901 z71 q6 q902 ⟨by decide +kernel, by decide +kernel, by decide +kernel⟩ ⟨by decide, by decide⟩ rfl))) (ok_nd (ok_lf (ok_Inc d_X5_dropsGo_11 (by decide) rfl)) (ok_nd (ok_lf (ok_Go d_X5_dropsGo_14 (by decide))) (ok_lf (ok_VRet d_X5_dropsGo_17)))))
noncomputable def S_X5_dropsGo : Sem := lockS (inl P_X5_dropsGo 30000 3) 0
theorem su_X5_dropsGo {l : Launch} {G : Gm} : SemU l G yX5_dropsGo (wsOf yX5_dropsGo cX5_dropsGo 3 none) 8 S_X5_dropsGo := sem_lock (sem_inl 30000 (by decide +kernel) rfl ok_X5_dropsGo)
theorem d_X5_sumOf_0 : decode cX5_sumOf 0 = .ok (.iconst 0, 1) := by decide +kernel
theorem d_X5_sumOf_1 : decode cX5_sumOf 1 = .ok (.istore_n 2, 1) := by decide +kernel
theorem d_X5_sumOf_2 : decode cX5_sumOf 2 = .ok (.iconst 0, 1) := by decide +kernel
theorem d_X5_sumOf_3 : decode cX5_sumOf 3 = .ok (.istore_n 3, 1) := by decide +kernel
theorem d_X5_sumOf_4 : decode cX5_sumOf 4 = .ok (.iload_n 3, 1) := by decide +kernel
theorem d_X5_sumOf_5 : decode cX5_sumOf 5 = .ok (.aload_n 0, 1) := by decide +kernel
theorem d_X5_sumOf_6 : decode cX5_sumOf 6 = .ok (.getfield 9, 3) := by decide +kernel
theorem d_X5_sumOf_9 : decode cX5_sumOf 9 = .ok (.iconst 1, 1) := by decide +kernel
theorem d_X5_sumOf_10 : decode cX5_sumOf 10 = .ok (.iaload, 1) := by decide +kernel
theorem d_X5_sumOf_11 : decode cX5_sumOf 11 = .ok (.if_icmp .ge 18, 3) := by decide +kernel
theorem d_X5_sumOf_14 : decode cX5_sumOf 14 = .ok (.iload_n 2, 1) := by decide +kernel
theorem d_X5_sumOf_15 : decode cX5_sumOf 15 = .ok (.aload_n 0, 1) := by decide +kernel
theorem d_X5_sumOf_16 : decode cX5_sumOf 16 = .ok (.iload_n 3, 1) := by decide +kernel
theorem d_X5_sumOf_17 : decode cX5_sumOf 17 = .ok (.iload_n 1, 1) := by decide +kernel
theorem d_X5_sumOf_18 : decode cX5_sumOf 18 = .ok (.invokevirtual 95, 3) := by decide +kernel
theorem d_X5_sumOf_21 : decode cX5_sumOf 21 = .ok (.iadd, 1) := by decide +kernel
theorem d_X5_sumOf_22 : decode cX5_sumOf 22 = .ok (.istore_n 2, 1) := by decide +kernel
theorem d_X5_sumOf_23 : decode cX5_sumOf 23 = .ok (.iinc 3 1, 3) := by decide +kernel
theorem d_X5_sumOf_26 : decode cX5_sumOf 26 = .ok (.goto (-22), 3) := by decide +kernel
theorem d_X5_sumOf_29 : decode cX5_sumOf 29 = .ok (.iload_n 2, 1) := by decide +kernel
theorem d_X5_sumOf_30 : decode cX5_sumOf 30 = .ok (.ireturn, 1) := by decide +kernel
noncomputable def P_X5_sumOf : Nat → Op := fun pc => nd 14 pc (nd 5 pc (nd 2 pc (nd 1 pc (lf 0 pc (oCst 0 1)) (lf 1 pc (oISt 2 2))) (nd 3 pc (lf 2 pc (oCst 0 3)) (nd 4 pc (lf 3 pc (oISt 3 4)) (lf 4 pc (lockO (oILd 3 5) 0))))) (nd 9 pc (nd 6 pc (lf 5 pc (oALd 0 6)) (lf 6 pc (oGetR 5 0 9))) (nd 10 pc (lf 9 pc (oCst 1 10)) (nd 11 pc (lf 10 pc (oIAL 11)) (lf 11 pc (oCpLt 14 29)))))) (nd 21 pc (nd 16 pc (nd 15 pc (lf 14 pc (oILd 2 15)) (lf 15 pc (oALd 0 16))) (nd 17 pc (lf 16 pc (oILd 3 17)) (nd 18 pc (lf 17 pc (oILd 1 18)) (lf 18 pc (oCaV 3 5 S_X5_disputantIs 21))))) (nd 26 pc (nd 22 pc (lf 21 pc (oBin (fun x y => x + y) 22)) (nd 23 pc (lf 22 pc (oISt 2 23)) (lf 23 pc (oInc 3 1 26)))) (nd 29 pc (lf 26 pc (oGo 4)) (nd 30 pc (lf 29 pc (oILd 2 30)) (lf 30 pc (oIRet))))))
theorem ok_X5_sumOf {l : Launch} {G : Gm} : ∀ pc, OkU (TXm l G (rmD 3) 4 cX5_sumOf RX5) (RXm l G (rmD 3) 4 cX5_sumOf RX5 (some .int)) pc (P_X5_sumOf pc) := fun pc => ok_nd (ok_nd (ok_nd (ok_nd (ok_lf (ok_ICst d_X5_sumOf_0 (by decide) rfl)) (ok_lf (ok_IStn d_X5_sumOf_1 rfl rfl))) (ok_nd (ok_lf (ok_ICst d_X5_sumOf_2 (by decide) rfl)) (ok_nd (ok_lf (ok_IStn d_X5_sumOf_3 rfl rfl)) (ok_lf (ok_lk (ok_ILdn d_X5_sumOf_4 rfl rfl)))))) (ok_nd (ok_nd (ok_lf (ok_ALdn d_X5_sumOf_5 rfl rfl)) (ok_lf (ok_GetR (by decide) (by decide) rfl d_X5_sumOf_6 q703 rfl))) (ok_nd (ok_lf (ok_ICst d_X5_sumOf_9 (by decide) rfl)) (ok_nd (ok_lf (ok_IAL d_X5_sumOf_10 rfl)) (ok_lf (ok_CpGe d_X5_sumOf_11 (by decide) rfl)))))) (ok_nd (ok_nd (ok_nd (ok_lf (ok_ILdn d_X5_sumOf_14 rfl rfl)) (ok_lf (ok_ALdn d_X5_sumOf_15 rfl rfl))) (ok_nd (ok_lf (ok_ILdn d_X5_sumOf_16 rfl rfl)) (ok_nd (ok_lf (ok_ILdn d_X5_sumOf_17 rfl rfl)) (ok_lf (ok_CaV su_X5_disputantIs (by decide) rfl d_X5_sumOf_18 q835 q837 z61 q6 q838 ⟨by decide +kernel, by decide +kernel, by decide +kernel⟩ ⟨by decide, by decide⟩ rfl))))) (ok_nd (ok_nd (ok_lf (ok_iadd d_X5_sumOf_21 rfl)) (ok_nd (ok_lf (ok_IStn d_X5_sumOf_22 rfl rfl)) (ok_lf (ok_Inc d_X5_sumOf_23 (by decide) rfl)))) (ok_nd (ok_lf (ok_Go d_X5_sumOf_26 (by decide))) (ok_nd (ok_lf (ok_ILdn d_X5_sumOf_29 rfl rfl)) (ok_lf (ok_IRet d_X5_sumOf_30))))))
noncomputable def S_X5_sumOf : Sem := lockS (inl P_X5_sumOf 30000 4) 0
theorem su_X5_sumOf {l : Launch} {G : Gm} : SemU l G yX5_sumOf (wsOf yX5_sumOf cX5_sumOf 4 (some .int)) 3 S_X5_sumOf := sem_lock (sem_inl 30000 (by decide +kernel) rfl ok_X5_sumOf)
theorem d_X5_go_0 : decode cX5_go 0 = .ok (.iload_n 1, 1) := by decide +kernel
theorem d_X5_go_1 : decode cX5_go 1 = .ok (.iconst 1, 1) := by decide +kernel
theorem d_X5_go_2 : decode cX5_go 2 = .ok (.bipush 60, 2) := by decide +kernel
theorem d_X5_go_4 : decode cX5_go 4 = .ok (.invokestatic 70, 3) := by decide +kernel
theorem d_X5_go_7 : decode cX5_go 7 = .ok (.ifCond .ne 10, 3) := by decide +kernel
theorem d_X5_go_10 : decode cX5_go 10 = .ok (.aload_n 0, 1) := by decide +kernel
theorem d_X5_go_11 : decode cX5_go 11 = .ok (.ldc 60, 2) := by decide +kernel
theorem d_X5_go_13 : decode cX5_go 13 = .ok (.invokevirtual 66, 3) := by decide +kernel
theorem d_X5_go_16 : decode cX5_go 16 = .ok (.ireturn, 1) := by decide +kernel
theorem d_X5_go_17 : decode cX5_go 17 = .ok (.aload_n 0, 1) := by decide +kernel
theorem d_X5_go_18 : decode cX5_go 18 = .ok (.getfield 9, 3) := by decide +kernel
theorem d_X5_go_21 : decode cX5_go 21 = .ok (.iconst 0, 1) := by decide +kernel
theorem d_X5_go_22 : decode cX5_go 22 = .ok (.iaload, 1) := by decide +kernel
theorem d_X5_go_23 : decode cX5_go 23 = .ok (.iload_n 1, 1) := by decide +kernel
theorem d_X5_go_24 : decode cX5_go 24 = .ok (.iadd, 1) := by decide +kernel
theorem d_X5_go_25 : decode cX5_go 25 = .ok (.ldc 155, 2) := by decide +kernel
theorem d_X5_go_27 : decode cX5_go 27 = .ok (.if_icmp .le 10, 3) := by decide +kernel
theorem d_X5_go_30 : decode cX5_go 30 = .ok (.aload_n 0, 1) := by decide +kernel
theorem d_X5_go_31 : decode cX5_go 31 = .ok (.ldc 159, 2) := by decide +kernel
theorem d_X5_go_33 : decode cX5_go 33 = .ok (.invokevirtual 66, 3) := by decide +kernel
theorem d_X5_go_36 : decode cX5_go 36 = .ok (.ireturn, 1) := by decide +kernel
theorem d_X5_go_37 : decode cX5_go 37 = .ok (.aload_n 0, 1) := by decide +kernel
theorem d_X5_go_38 : decode cX5_go 38 = .ok (.iload_n 1, 1) := by decide +kernel
theorem d_X5_go_39 : decode cX5_go 39 = .ok (.invokevirtual 160, 3) := by decide +kernel
theorem d_X5_go_42 : decode cX5_go 42 = .ok (.aload_n 0, 1) := by decide +kernel
theorem d_X5_go_43 : decode cX5_go 43 = .ok (.iconst 3, 1) := by decide +kernel
theorem d_X5_go_44 : decode cX5_go 44 = .ok (.invokevirtual 164, 3) := by decide +kernel
theorem d_X5_go_47 : decode cX5_go 47 = .ok (.ireturn, 1) := by decide +kernel
noncomputable def P_X5_go : Nat → Op := fun pc => nd 24 pc (nd 13 pc (nd 4 pc (nd 1 pc (lf 0 pc (oILd 1 1)) (nd 2 pc (lf 1 pc (oCst 1 2)) (lf 2 pc (oCst 60 4)))) (nd 10 pc (nd 7 pc (lf 4 pc (oCaS 3 S_X5_within 7)) (lf 7 pc (oIfEq 10 17))) (nd 11 pc (lf 10 pc (oALd 0 11)) (lf 11 pc (oCst (-1000001) 13))))) (nd 18 pc (nd 16 pc (lf 13 pc (oCaV 2 5 S_X5_finding 16)) (nd 17 pc (lf 16 pc (oIRet)) (lf 17 pc (oALd 0 18)))) (nd 22 pc (nd 21 pc (lf 18 pc (oGetR 5 0 21)) (lf 21 pc (oCst 0 22))) (nd 23 pc (lf 22 pc (oIAL 23)) (lf 23 pc (oILd 1 24)))))) (nd 37 pc (nd 30 pc (nd 25 pc (lf 24 pc (oBin (fun x y => x + y) 25)) (nd 27 pc (lf 25 pc (oCst (99999) 27)) (lf 27 pc (oCpGt 30 37)))) (nd 33 pc (nd 31 pc (lf 30 pc (oALd 0 31)) (lf 31 pc (oCst (-1000005) 33))) (nd 36 pc (lf 33 pc (oCaV 2 5 S_X5_finding 36)) (lf 36 pc (oIRet))))) (nd 42 pc (nd 38 pc (lf 37 pc (oALd 0 38)) (nd 39 pc (lf 38 pc (oILd 1 39)) (lf 39 pc (oCaV 2 5 S_X5_dropsGo 42)))) (nd 44 pc (nd 43 pc (lf 42 pc (oALd 0 43)) (lf 43 pc (oCst 3 44))) (nd 47 pc (lf 44 pc (oCaV 2 5 S_X5_sumOf 47)) (lf 47 pc (oIRet))))))
theorem ok_X5_go {l : Launch} {G : Gm} : ∀ pc, OkU (TXm l G (rmD 9) 2 cX5_go RX5) (RXm l G (rmD 9) 2 cX5_go RX5 (some .int)) pc (P_X5_go pc) := fun pc => ok_nd (ok_nd (ok_nd (ok_nd (ok_lf (ok_ILdn d_X5_go_0 rfl rfl)) (ok_nd (ok_lf (ok_ICst d_X5_go_1 (by decide) rfl)) (ok_lf (ok_BCst d_X5_go_2 (by decide) rfl)))) (ok_nd (ok_nd (ok_lf (ok_CaS su_X5_within d_X5_go_4 q774 q775 q6 q776 ⟨by decide +kernel, by decide +kernel, by decide +kernel⟩ ⟨by decide, by decide⟩ rfl)) (ok_lf (ok_IfNe d_X5_go_7 (by decide) rfl))) (ok_nd (ok_lf (ok_ALdn d_X5_go_10 rfl rfl)) (ok_lf (ok_Ldc d_X5_go_11 q781 rfl))))) (ok_nd (ok_nd (ok_lf (ok_CaV su_X5_finding (by decide) rfl d_X5_go_13 q782 q784 z56 q6 q785 ⟨by decide +kernel, by decide +kernel, by decide +kernel⟩ ⟨by decide, by decide⟩ rfl)) (ok_nd (ok_lf (ok_IRet d_X5_go_16)) (ok_lf (ok_ALdn d_X5_go_17 rfl rfl)))) (ok_nd (ok_nd (ok_lf (ok_GetR (by decide) (by decide) rfl d_X5_go_18 q703 rfl)) (ok_lf (ok_ICst d_X5_go_21 (by decide) rfl))) (ok_nd (ok_lf (ok_IAL d_X5_go_22 rfl)) (ok_lf (ok_ILdn d_X5_go_23 rfl rfl)))))) (ok_nd (ok_nd (ok_nd (ok_lf (ok_iadd d_X5_go_24 rfl)) (ok_nd (ok_lf (ok_Ldc d_X5_go_25 q893 rfl)) (ok_lf (ok_CpLe d_X5_go_27 (by decide) rfl)))) (ok_nd (ok_nd (ok_lf (ok_ALdn d_X5_go_30 rfl rfl)) (ok_lf (ok_Ldc d_X5_go_31 q894 rfl))) (ok_nd (ok_lf (ok_CaV su_X5_finding (by decide) rfl d_X5_go_33 q782 q784 z56 q6 q785 ⟨by decide +kernel, by decide +kernel, by decide +kernel⟩ ⟨by decide, by decide⟩ rfl)) (ok_lf (ok_IRet d_X5_go_36))))) (ok_nd (ok_nd (ok_lf (ok_ALdn d_X5_go_37 rfl rfl)) (ok_nd (ok_lf (ok_ILdn d_X5_go_38 rfl rfl)) (ok_lf (ok_CaV su_X5_dropsGo (by decide) rfl d_X5_go_39 q895 q897 z70 q6 q898 ⟨by decide +kernel, by decide +kernel, by decide +kernel⟩ ⟨by decide, by decide⟩ rfl)))) (ok_nd (ok_nd (ok_lf (ok_ALdn d_X5_go_42 rfl rfl)) (ok_lf (ok_ICst d_X5_go_43 (by decide) rfl))) (ok_nd (ok_lf (ok_CaV su_X5_sumOf (by decide) rfl d_X5_go_44 q915 q917 z75 q6 q918 ⟨by decide +kernel, by decide +kernel, by decide +kernel⟩ ⟨by decide, by decide⟩ rfl)) (ok_lf (ok_IRet d_X5_go_47))))))
noncomputable def S_X5_go : Sem := lockS (inl P_X5_go 30 2) 0
theorem su_X5_go {l : Launch} {G : Gm} : SemU l G yX5_go (wsOf yX5_go cX5_go 2 (some .int)) 9 S_X5_go := sem_lock (sem_inl 30 (by decide +kernel) rfl ok_X5_go)
theorem d_X5_oftenWrong_0 : decode cX5_oftenWrong 0 = .ok (.iconst 0, 1) := by decide +kernel
theorem d_X5_oftenWrong_1 : decode cX5_oftenWrong 1 = .ok (.istore_n 1, 1) := by decide +kernel
theorem d_X5_oftenWrong_2 : decode cX5_oftenWrong 2 = .ok (.iconst 0, 1) := by decide +kernel
theorem d_X5_oftenWrong_3 : decode cX5_oftenWrong 3 = .ok (.istore_n 2, 1) := by decide +kernel
theorem d_X5_oftenWrong_4 : decode cX5_oftenWrong 4 = .ok (.iload_n 2, 1) := by decide +kernel
theorem d_X5_oftenWrong_5 : decode cX5_oftenWrong 5 = .ok (.aload_n 0, 1) := by decide +kernel
theorem d_X5_oftenWrong_6 : decode cX5_oftenWrong 6 = .ok (.getfield 9, 3) := by decide +kernel
theorem d_X5_oftenWrong_9 : decode cX5_oftenWrong 9 = .ok (.iconst 1, 1) := by decide +kernel
theorem d_X5_oftenWrong_10 : decode cX5_oftenWrong 10 = .ok (.iaload, 1) := by decide +kernel
theorem d_X5_oftenWrong_11 : decode cX5_oftenWrong 11 = .ok (.if_icmp .ge 34, 3) := by decide +kernel
theorem d_X5_oftenWrong_14 : decode cX5_oftenWrong 14 = .ok (.iload_n 1, 1) := by decide +kernel
theorem d_X5_oftenWrong_15 : decode cX5_oftenWrong 15 = .ok (.aload_n 0, 1) := by decide +kernel
theorem d_X5_oftenWrong_16 : decode cX5_oftenWrong 16 = .ok (.iload_n 2, 1) := by decide +kernel
theorem d_X5_oftenWrong_17 : decode cX5_oftenWrong 17 = .ok (.iconst 3, 1) := by decide +kernel
theorem d_X5_oftenWrong_18 : decode cX5_oftenWrong 18 = .ok (.invokevirtual 95, 3) := by decide +kernel
theorem d_X5_oftenWrong_21 : decode cX5_oftenWrong 21 = .ok (.aload_n 0, 1) := by decide +kernel
theorem d_X5_oftenWrong_22 : decode cX5_oftenWrong 22 = .ok (.iload_n 2, 1) := by decide +kernel
theorem d_X5_oftenWrong_23 : decode cX5_oftenWrong 23 = .ok (.iconst 4, 1) := by decide +kernel
theorem d_X5_oftenWrong_24 : decode cX5_oftenWrong 24 = .ok (.invokevirtual 95, 3) := by decide +kernel
theorem d_X5_oftenWrong_27 : decode cX5_oftenWrong 27 = .ok (.if_icmp .le 9, 3) := by decide +kernel
theorem d_X5_oftenWrong_30 : decode cX5_oftenWrong 30 = .ok (.iconst 1, 1) := by decide +kernel
theorem d_X5_oftenWrong_31 : decode cX5_oftenWrong 31 = .ok (.iload_n 2, 1) := by decide +kernel
theorem d_X5_oftenWrong_32 : decode cX5_oftenWrong 32 = .ok (.ishl, 1) := by decide +kernel
theorem d_X5_oftenWrong_33 : decode cX5_oftenWrong 33 = .ok (.goto 4, 3) := by decide +kernel
theorem d_X5_oftenWrong_36 : decode cX5_oftenWrong 36 = .ok (.iconst 0, 1) := by decide +kernel
theorem d_X5_oftenWrong_37 : decode cX5_oftenWrong 37 = .ok (.ior, 1) := by decide +kernel
theorem d_X5_oftenWrong_38 : decode cX5_oftenWrong 38 = .ok (.istore_n 1, 1) := by decide +kernel
theorem d_X5_oftenWrong_39 : decode cX5_oftenWrong 39 = .ok (.iinc 2 1, 3) := by decide +kernel
theorem d_X5_oftenWrong_42 : decode cX5_oftenWrong 42 = .ok (.goto (-38), 3) := by decide +kernel
theorem d_X5_oftenWrong_45 : decode cX5_oftenWrong 45 = .ok (.iload_n 1, 1) := by decide +kernel
theorem d_X5_oftenWrong_46 : decode cX5_oftenWrong 46 = .ok (.ireturn, 1) := by decide +kernel
noncomputable def P_X5_oftenWrong : Nat → Op := fun pc => nd 21 pc (nd 9 pc (nd 3 pc (nd 1 pc (lf 0 pc (oCst 0 1)) (nd 2 pc (lf 1 pc (oISt 1 2)) (lf 2 pc (oCst 0 3)))) (nd 5 pc (nd 4 pc (lf 3 pc (oISt 2 4)) (lf 4 pc (lockO (oILd 2 5) 0))) (nd 6 pc (lf 5 pc (oALd 0 6)) (lf 6 pc (oGetR 5 0 9))))) (nd 15 pc (nd 11 pc (nd 10 pc (lf 9 pc (oCst 1 10)) (lf 10 pc (oIAL 11))) (nd 14 pc (lf 11 pc (oCpLt 14 45)) (lf 14 pc (oILd 1 15)))) (nd 17 pc (nd 16 pc (lf 15 pc (oALd 0 16)) (lf 16 pc (oILd 2 17))) (nd 18 pc (lf 17 pc (oCst 3 18)) (lf 18 pc (oCaV 3 5 S_X5_disputantIs 21)))))) (nd 33 pc (nd 27 pc (nd 23 pc (nd 22 pc (lf 21 pc (oALd 0 22)) (lf 22 pc (oILd 2 23))) (nd 24 pc (lf 23 pc (oCst 4 24)) (lf 24 pc (oCaV 3 5 S_X5_disputantIs 27)))) (nd 31 pc (nd 30 pc (lf 27 pc (oCpGt 30 36)) (lf 30 pc (oCst 1 31))) (nd 32 pc (lf 31 pc (oILd 2 32)) (lf 32 pc (oBin (fun x y => x <<< (y &&& 31)) 33))))) (nd 39 pc (nd 37 pc (nd 36 pc (lf 33 pc (oGo 37)) (lf 36 pc (oCst 0 37))) (nd 38 pc (lf 37 pc (oBin (fun x y => x ||| y) 38)) (lf 38 pc (oISt 1 39)))) (nd 45 pc (nd 42 pc (lf 39 pc (oInc 2 1 42)) (lf 42 pc (oGo 4))) (nd 46 pc (lf 45 pc (oILd 1 46)) (lf 46 pc (oIRet))))))
theorem ok_X5_oftenWrong {l : Launch} {G : Gm} : ∀ pc, OkU (TXm l G (rmD 3) 3 cX5_oftenWrong RX5) (RXm l G (rmD 3) 3 cX5_oftenWrong RX5 (some .int)) pc (P_X5_oftenWrong pc) := fun pc => ok_nd (ok_nd (ok_nd (ok_nd (ok_lf (ok_ICst d_X5_oftenWrong_0 (by decide) rfl)) (ok_nd (ok_lf (ok_IStn d_X5_oftenWrong_1 rfl rfl)) (ok_lf (ok_ICst d_X5_oftenWrong_2 (by decide) rfl)))) (ok_nd (ok_nd (ok_lf (ok_IStn d_X5_oftenWrong_3 rfl rfl)) (ok_lf (ok_lk (ok_ILdn d_X5_oftenWrong_4 rfl rfl)))) (ok_nd (ok_lf (ok_ALdn d_X5_oftenWrong_5 rfl rfl)) (ok_lf (ok_GetR (by decide) (by decide) rfl d_X5_oftenWrong_6 q703 rfl))))) (ok_nd (ok_nd (ok_nd (ok_lf (ok_ICst d_X5_oftenWrong_9 (by decide) rfl)) (ok_lf (ok_IAL d_X5_oftenWrong_10 rfl))) (ok_nd (ok_lf (ok_CpGe d_X5_oftenWrong_11 (by decide) rfl)) (ok_lf (ok_ILdn d_X5_oftenWrong_14 rfl rfl)))) (ok_nd (ok_nd (ok_lf (ok_ALdn d_X5_oftenWrong_15 rfl rfl)) (ok_lf (ok_ILdn d_X5_oftenWrong_16 rfl rfl))) (ok_nd (ok_lf (ok_ICst d_X5_oftenWrong_17 (by decide) rfl)) (ok_lf (ok_CaV su_X5_disputantIs (by decide) rfl d_X5_oftenWrong_18 q835 q837 z61 q6 q838 ⟨by decide +kernel, by decide +kernel, by decide +kernel⟩ ⟨by decide, by decide⟩ rfl)))))) (ok_nd (ok_nd (ok_nd (ok_nd (ok_lf (ok_ALdn d_X5_oftenWrong_21 rfl rfl)) (ok_lf (ok_ILdn d_X5_oftenWrong_22 rfl rfl))) (ok_nd (ok_lf (ok_ICst d_X5_oftenWrong_23 (by decide) rfl)) (ok_lf (ok_CaV su_X5_disputantIs (by decide) rfl d_X5_oftenWrong_24 q835 q837 z61 q6 q838 ⟨by decide +kernel, by decide +kernel, by decide +kernel⟩ ⟨by decide, by decide⟩ rfl)))) (ok_nd (ok_nd (ok_lf (ok_CpLe d_X5_oftenWrong_27 (by decide) rfl)) (ok_lf (ok_ICst d_X5_oftenWrong_30 (by decide) rfl))) (ok_nd (ok_lf (ok_ILdn d_X5_oftenWrong_31 rfl rfl)) (ok_lf (ok_ishl d_X5_oftenWrong_32 rfl))))) (ok_nd (ok_nd (ok_nd (ok_lf (ok_Go d_X5_oftenWrong_33 (by decide))) (ok_lf (ok_ICst d_X5_oftenWrong_36 (by decide) rfl))) (ok_nd (ok_lf (ok_ior d_X5_oftenWrong_37 rfl)) (ok_lf (ok_IStn d_X5_oftenWrong_38 rfl rfl)))) (ok_nd (ok_nd (ok_lf (ok_Inc d_X5_oftenWrong_39 (by decide) rfl)) (ok_lf (ok_Go d_X5_oftenWrong_42 (by decide)))) (ok_nd (ok_lf (ok_ILdn d_X5_oftenWrong_45 rfl rfl)) (ok_lf (ok_IRet d_X5_oftenWrong_46))))))
noncomputable def S_X5_oftenWrong : Sem := lockS (inl P_X5_oftenWrong 30000 3) 0
theorem su_X5_oftenWrong {l : Launch} {G : Gm} : SemU l G yX5_oftenWrong (wsOf yX5_oftenWrong cX5_oftenWrong 3 (some .int)) 3 S_X5_oftenWrong := sem_lock (sem_inl 30000 (by decide +kernel) rfl ok_X5_oftenWrong)
theorem d_X5_pressesMost_0 : decode cX5_pressesMost 0 = .ok (.iconst (-1), 1) := by decide +kernel
theorem d_X5_pressesMost_1 : decode cX5_pressesMost 1 = .ok (.istore_n 1, 1) := by decide +kernel
theorem d_X5_pressesMost_2 : decode cX5_pressesMost 2 = .ok (.iconst 0, 1) := by decide +kernel
theorem d_X5_pressesMost_3 : decode cX5_pressesMost 3 = .ok (.istore_n 2, 1) := by decide +kernel
theorem d_X5_pressesMost_4 : decode cX5_pressesMost 4 = .ok (.iload_n 2, 1) := by decide +kernel
theorem d_X5_pressesMost_5 : decode cX5_pressesMost 5 = .ok (.aload_n 0, 1) := by decide +kernel
theorem d_X5_pressesMost_6 : decode cX5_pressesMost 6 = .ok (.getfield 9, 3) := by decide +kernel
theorem d_X5_pressesMost_9 : decode cX5_pressesMost 9 = .ok (.iconst 1, 1) := by decide +kernel
theorem d_X5_pressesMost_10 : decode cX5_pressesMost 10 = .ok (.iaload, 1) := by decide +kernel
theorem d_X5_pressesMost_11 : decode cX5_pressesMost 11 = .ok (.if_icmp .ge 32, 3) := by decide +kernel
theorem d_X5_pressesMost_14 : decode cX5_pressesMost 14 = .ok (.iload_n 1, 1) := by decide +kernel
theorem d_X5_pressesMost_15 : decode cX5_pressesMost 15 = .ok (.ifCond .lt 16, 3) := by decide +kernel
theorem d_X5_pressesMost_18 : decode cX5_pressesMost 18 = .ok (.aload_n 0, 1) := by decide +kernel
theorem d_X5_pressesMost_19 : decode cX5_pressesMost 19 = .ok (.iload_n 2, 1) := by decide +kernel
theorem d_X5_pressesMost_20 : decode cX5_pressesMost 20 = .ok (.invokevirtual 106, 3) := by decide +kernel
theorem d_X5_pressesMost_23 : decode cX5_pressesMost 23 = .ok (.aload_n 0, 1) := by decide +kernel
theorem d_X5_pressesMost_24 : decode cX5_pressesMost 24 = .ok (.iload_n 1, 1) := by decide +kernel
theorem d_X5_pressesMost_25 : decode cX5_pressesMost 25 = .ok (.invokevirtual 106, 3) := by decide +kernel
theorem d_X5_pressesMost_28 : decode cX5_pressesMost 28 = .ok (.if_icmp .le 7, 3) := by decide +kernel
theorem d_X5_pressesMost_31 : decode cX5_pressesMost 31 = .ok (.iload_n 2, 1) := by decide +kernel
theorem d_X5_pressesMost_32 : decode cX5_pressesMost 32 = .ok (.goto 4, 3) := by decide +kernel
theorem d_X5_pressesMost_35 : decode cX5_pressesMost 35 = .ok (.iload_n 1, 1) := by decide +kernel
theorem d_X5_pressesMost_36 : decode cX5_pressesMost 36 = .ok (.istore_n 1, 1) := by decide +kernel
theorem d_X5_pressesMost_37 : decode cX5_pressesMost 37 = .ok (.iinc 2 1, 3) := by decide +kernel
theorem d_X5_pressesMost_40 : decode cX5_pressesMost 40 = .ok (.goto (-36), 3) := by decide +kernel
theorem d_X5_pressesMost_43 : decode cX5_pressesMost 43 = .ok (.iload_n 1, 1) := by decide +kernel
theorem d_X5_pressesMost_44 : decode cX5_pressesMost 44 = .ok (.ireturn, 1) := by decide +kernel
noncomputable def P_X5_pressesMost : Nat → Op := fun pc => nd 19 pc (nd 6 pc (nd 3 pc (nd 1 pc (lf 0 pc (oCst (-1) 1)) (nd 2 pc (lf 1 pc (oISt 1 2)) (lf 2 pc (oCst 0 3)))) (nd 4 pc (lf 3 pc (oISt 2 4)) (nd 5 pc (lf 4 pc (lockO (oILd 2 5) 0)) (lf 5 pc (oALd 0 6))))) (nd 11 pc (nd 9 pc (lf 6 pc (oGetR 5 0 9)) (nd 10 pc (lf 9 pc (oCst 1 10)) (lf 10 pc (oIAL 11)))) (nd 15 pc (nd 14 pc (lf 11 pc (oCpLt 14 43)) (lf 14 pc (oILd 1 15))) (nd 18 pc (lf 15 pc (oIfLt 31 18)) (lf 18 pc (oALd 0 19)))))) (nd 32 pc (nd 24 pc (nd 20 pc (lf 19 pc (oILd 2 20)) (nd 23 pc (lf 20 pc (oCaV 2 5 S_X5_presses 23)) (lf 23 pc (oALd 0 24)))) (nd 28 pc (nd 25 pc (lf 24 pc (oILd 1 25)) (lf 25 pc (oCaV 2 5 S_X5_presses 28))) (nd 31 pc (lf 28 pc (oCpGt 31 35)) (lf 31 pc (oILd 2 32))))) (nd 37 pc (nd 35 pc (lf 32 pc (oGo 36)) (nd 36 pc (lf 35 pc (oILd 1 36)) (lf 36 pc (oISt 1 37)))) (nd 43 pc (nd 40 pc (lf 37 pc (oInc 2 1 40)) (lf 40 pc (oGo 4))) (nd 44 pc (lf 43 pc (oILd 1 44)) (lf 44 pc (oIRet))))))
theorem ok_X5_pressesMost {l : Launch} {G : Gm} : ∀ pc, OkU (TXm l G (rmD 4) 3 cX5_pressesMost RX5) (RXm l G (rmD 4) 3 cX5_pressesMost RX5 (some .int)) pc (P_X5_pressesMost pc) := fun pc => ok_nd (ok_nd (ok_nd (ok_nd (ok_lf (ok_ICst d_X5_pressesMost_0 (by decide) rfl)) (ok_nd (ok_lf (ok_IStn d_X5_pressesMost_1 rfl rfl)) (ok_lf (ok_ICst d_X5_pressesMost_2 (by decide) rfl)))) (ok_nd (ok_lf (ok_IStn d_X5_pressesMost_3 rfl rfl)) (ok_nd (ok_lf (ok_lk (ok_ILdn d_X5_pressesMost_4 rfl rfl))) (ok_lf (ok_ALdn d_X5_pressesMost_5 rfl rfl))))) (ok_nd (ok_nd (ok_lf (ok_GetR (by decide) (by decide) rfl d_X5_pressesMost_6 q703 rfl)) (ok_nd (ok_lf (ok_ICst d_X5_pressesMost_9 (by decide) rfl)) (ok_lf (ok_IAL d_X5_pressesMost_10 rfl)))) (ok_nd (ok_nd (ok_lf (ok_CpGe d_X5_pressesMost_11 (by decide) rfl)) (ok_lf (ok_ILdn d_X5_pressesMost_14 rfl rfl))) (ok_nd (ok_lf (ok_IfLt d_X5_pressesMost_15 (by decide) rfl)) (ok_lf (ok_ALdn d_X5_pressesMost_18 rfl rfl)))))) (ok_nd (ok_nd (ok_nd (ok_lf (ok_ILdn d_X5_pressesMost_19 rfl rfl)) (ok_nd (ok_lf (ok_CaV su_X5_presses (by decide) rfl d_X5_pressesMost_20 q831 q833 z60 q6 q834 ⟨by decide +kernel, by decide +kernel, by decide +kernel⟩ ⟨by decide, by decide⟩ rfl)) (ok_lf (ok_ALdn d_X5_pressesMost_23 rfl rfl)))) (ok_nd (ok_nd (ok_lf (ok_ILdn d_X5_pressesMost_24 rfl rfl)) (ok_lf (ok_CaV su_X5_presses (by decide) rfl d_X5_pressesMost_25 q831 q833 z60 q6 q834 ⟨by decide +kernel, by decide +kernel, by decide +kernel⟩ ⟨by decide, by decide⟩ rfl))) (ok_nd (ok_lf (ok_CpLe d_X5_pressesMost_28 (by decide) rfl)) (ok_lf (ok_ILdn d_X5_pressesMost_31 rfl rfl))))) (ok_nd (ok_nd (ok_lf (ok_Go d_X5_pressesMost_32 (by decide))) (ok_nd (ok_lf (ok_ILdn d_X5_pressesMost_35 rfl rfl)) (ok_lf (ok_IStn d_X5_pressesMost_36 rfl rfl)))) (ok_nd (ok_nd (ok_lf (ok_Inc d_X5_pressesMost_37 (by decide) rfl)) (ok_lf (ok_Go d_X5_pressesMost_40 (by decide)))) (ok_nd (ok_lf (ok_ILdn d_X5_pressesMost_43 rfl rfl)) (ok_lf (ok_IRet d_X5_pressesMost_44))))))
noncomputable def S_X5_pressesMost : Sem := lockS (inl P_X5_pressesMost 30000 3) 0
theorem su_X5_pressesMost {l : Launch} {G : Gm} : SemU l G yX5_pressesMost (wsOf yX5_pressesMost cX5_pressesMost 3 (some .int)) 4 S_X5_pressesMost := sem_lock (sem_inl 30000 (by decide +kernel) rfl ok_X5_pressesMost)
