theorem d_X2_isMissing_0 : decode cX2_isMissing 0 = .ok (.aload_n 0, 1) := by decide +kernel
theorem d_X2_isMissing_1 : decode cX2_isMissing 1 = .ok (.getfield 9, 3) := by decide +kernel
theorem d_X2_isMissing_4 : decode cX2_isMissing 4 = .ok (.ifCond .ne 7, 3) := by decide +kernel
theorem d_X2_isMissing_7 : decode cX2_isMissing 7 = .ok (.iconst 1, 1) := by decide +kernel
theorem d_X2_isMissing_8 : decode cX2_isMissing 8 = .ok (.goto 4, 3) := by decide +kernel
theorem d_X2_isMissing_11 : decode cX2_isMissing 11 = .ok (.iconst 0, 1) := by decide +kernel
theorem d_X2_isMissing_12 : decode cX2_isMissing 12 = .ok (.ireturn, 1) := by decide +kernel
noncomputable def P_X2_isMissing : Nat → Op := fun pc => nd 7 pc (nd 1 pc (lf 0 pc (oALd 0 1)) (nd 4 pc (lf 1 pc (oGetI 2 0 4)) (lf 4 pc (oIfEq 7 11)))) (nd 11 pc (nd 8 pc (lf 7 pc (oCst 1 8)) (lf 8 pc (oGo 12))) (nd 12 pc (lf 11 pc (oCst 0 12)) (lf 12 pc (oZRet))))
theorem ok_X2_isMissing {l : Launch} {G : Gm} : ∀ pc, OkU (TXm l G (rmD 1) 1 cX2_isMissing RX2) (RXm l G (rmD 1) 1 cX2_isMissing RX2 (some .boolean)) pc (P_X2_isMissing pc) := fun pc => ok_nd (ok_nd (ok_lf (ok_ALdn d_X2_isMissing_0 rfl rfl)) (ok_nd (ok_lf (ok_GetI (by decide) (by decide) rfl d_X2_isMissing_1 q141 rfl)) (ok_lf (ok_IfNe d_X2_isMissing_4 (by decide) rfl)))) (ok_nd (ok_nd (ok_lf (ok_ICst d_X2_isMissing_7 (by decide) rfl)) (ok_lf (ok_Go d_X2_isMissing_8 (by decide)))) (ok_nd (ok_lf (ok_ICst d_X2_isMissing_11 (by decide) rfl)) (ok_lf (ok_ZRet d_X2_isMissing_12))))
noncomputable def S_X2_isMissing : Sem := inl P_X2_isMissing 9 1
theorem su_X2_isMissing {l : Launch} {G : Gm} : SemU l G yX2_isMissing (wsOf yX2_isMissing cX2_isMissing 1 (some .boolean)) 1 S_X2_isMissing := sem_inl 9 (by decide +kernel) rfl ok_X2_isMissing
theorem d_X2_renew_0 : decode cX2_renew 0 = .ok (.aload_n 0, 1) := by decide +kernel
theorem d_X2_renew_1 : decode cX2_renew 1 = .ok (.iload_n 1, 1) := by decide +kernel
theorem d_X2_renew_2 : decode cX2_renew 2 = .ok (.putfield 9, 3) := by decide +kernel
theorem d_X2_renew_5 : decode cX2_renew 5 = .ok (.aload_n 0, 1) := by decide +kernel
theorem d_X2_renew_6 : decode cX2_renew 6 = .ok (.iload_n 2, 1) := by decide +kernel
theorem d_X2_renew_7 : decode cX2_renew 7 = .ok (.putfield 15, 3) := by decide +kernel
theorem d_X2_renew_10 : decode cX2_renew 10 = .ok (.iconst 0, 1) := by decide +kernel
theorem d_X2_renew_11 : decode cX2_renew 11 = .ok (.istore_n 3, 1) := by decide +kernel
theorem d_X2_renew_12 : decode cX2_renew 12 = .ok (.iload_n 3, 1) := by decide +kernel
theorem d_X2_renew_13 : decode cX2_renew 13 = .ok (.bipush 40, 2) := by decide +kernel
theorem d_X2_renew_15 : decode cX2_renew 15 = .ok (.if_icmp .ge 16, 3) := by decide +kernel
theorem d_X2_renew_18 : decode cX2_renew 18 = .ok (.aload_n 0, 1) := by decide +kernel
theorem d_X2_renew_19 : decode cX2_renew 19 = .ok (.getfield 18, 3) := by decide +kernel
theorem d_X2_renew_22 : decode cX2_renew 22 = .ok (.iload_n 3, 1) := by decide +kernel
theorem d_X2_renew_23 : decode cX2_renew 23 = .ok (.iconst 0, 1) := by decide +kernel
theorem d_X2_renew_24 : decode cX2_renew 24 = .ok (.iastore, 1) := by decide +kernel
theorem d_X2_renew_25 : decode cX2_renew 25 = .ok (.iinc 3 1, 3) := by decide +kernel
theorem d_X2_renew_28 : decode cX2_renew 28 = .ok (.goto (-16), 3) := by decide +kernel
theorem d_X2_renew_31 : decode cX2_renew 31 = .ok (.return_, 1) := by decide +kernel
noncomputable def P_X2_renew : Nat → Op := fun pc => nd 13 pc (nd 6 pc (nd 2 pc (nd 1 pc (lf 0 pc (oALd 0 1)) (lf 1 pc (oILd 1 2))) (nd 5 pc (lf 2 pc (oPutI 2 0 5)) (lf 5 pc (oALd 0 6)))) (nd 10 pc (nd 7 pc (lf 6 pc (oILd 2 7)) (lf 7 pc (oPutI 2 1 10))) (nd 11 pc (lf 10 pc (oCst 0 11)) (nd 12 pc (lf 11 pc (oISt 3 12)) (lf 12 pc (lockO (oILd 3 13) 0)))))) (nd 23 pc (nd 18 pc (nd 15 pc (lf 13 pc (oCst 40 15)) (lf 15 pc (oCpLt 18 31))) (nd 19 pc (lf 18 pc (oALd 0 19)) (nd 22 pc (lf 19 pc (oGetR 2 2 22)) (lf 22 pc (oILd 3 23))))) (nd 25 pc (nd 24 pc (lf 23 pc (oCst 0 24)) (lf 24 pc (oIAS 25))) (nd 28 pc (lf 25 pc (oInc 3 1 28)) (nd 31 pc (lf 28 pc (oGo 12)) (lf 31 pc (oVRet))))))
theorem ok_X2_renew {l : Launch} {G : Gm} : ∀ pc, OkU (TXm l G (rmD 1) 4 cX2_renew RX2) (RXm l G (rmD 1) 4 cX2_renew RX2 none) pc (P_X2_renew pc) := fun pc => ok_nd (ok_nd (ok_nd (ok_nd (ok_lf (ok_ALdn d_X2_renew_0 rfl rfl)) (ok_lf (ok_ILdn d_X2_renew_1 rfl rfl))) (ok_nd (ok_lf (ok_PutI (by decide) (by decide) rfl rfl (by decide +kernel) d_X2_renew_2 q141 rfl)) (ok_lf (ok_ALdn d_X2_renew_5 rfl rfl)))) (ok_nd (ok_nd (ok_lf (ok_ILdn d_X2_renew_6 rfl rfl)) (ok_lf (ok_PutI (by decide) (by decide) rfl rfl (by decide +kernel) d_X2_renew_7 q143 rfl))) (ok_nd (ok_lf (ok_ICst d_X2_renew_10 (by decide) rfl)) (ok_nd (ok_lf (ok_IStn d_X2_renew_11 rfl rfl)) (ok_lf (ok_lk (ok_ILdn d_X2_renew_12 rfl rfl))))))) (ok_nd (ok_nd (ok_nd (ok_lf (ok_BCst d_X2_renew_13 (by decide) rfl)) (ok_lf (ok_CpGe d_X2_renew_15 (by decide) rfl))) (ok_nd (ok_lf (ok_ALdn d_X2_renew_18 rfl rfl)) (ok_nd (ok_lf (ok_GetR (by decide) (by decide) rfl d_X2_renew_19 q145 rfl)) (ok_lf (ok_ILdn d_X2_renew_22 rfl rfl))))) (ok_nd (ok_nd (ok_lf (ok_ICst d_X2_renew_23 (by decide) rfl)) (ok_lf (ok_IAS d_X2_renew_24 rfl))) (ok_nd (ok_lf (ok_Inc d_X2_renew_25 (by decide) rfl)) (ok_nd (ok_lf (ok_Go d_X2_renew_28 (by decide))) (ok_lf (ok_VRet d_X2_renew_31))))))
noncomputable def S_X2_renew : Sem := lockS (inl P_X2_renew 30000 4) 0
theorem su_X2_renew {l : Launch} {G : Gm} : SemU l G yX2_renew (wsOf yX2_renew cX2_renew 4 none) 1 S_X2_renew := sem_lock (sem_inl 30000 (by decide +kernel) rfl ok_X2_renew)
theorem d_X2_put_0 : decode cX2_put 0 = .ok (.aload_n 0, 1) := by decide +kernel
theorem d_X2_put_1 : decode cX2_put 1 = .ok (.getfield 9, 3) := by decide +kernel
theorem d_X2_put_4 : decode cX2_put 4 = .ok (.lookupswitch 50 #[(8, 28), (16, 39)], 28) := by decide +kernel
theorem d_X2_put_32 : decode cX2_put 32 = .ok (.aload_n 0, 1) := by decide +kernel
theorem d_X2_put_33 : decode cX2_put 33 = .ok (.getfield 18, 3) := by decide +kernel
theorem d_X2_put_36 : decode cX2_put 36 = .ok (.iload_n 1, 1) := by decide +kernel
theorem d_X2_put_37 : decode cX2_put 37 = .ok (.iload_n 2, 1) := by decide +kernel
theorem d_X2_put_38 : decode cX2_put 38 = .ok (.i2b, 1) := by decide +kernel
theorem d_X2_put_39 : decode cX2_put 39 = .ok (.iastore, 1) := by decide +kernel
theorem d_X2_put_40 : decode cX2_put 40 = .ok (.goto 21, 3) := by decide +kernel
theorem d_X2_put_43 : decode cX2_put 43 = .ok (.aload_n 0, 1) := by decide +kernel
theorem d_X2_put_44 : decode cX2_put 44 = .ok (.getfield 18, 3) := by decide +kernel
theorem d_X2_put_47 : decode cX2_put 47 = .ok (.iload_n 1, 1) := by decide +kernel
theorem d_X2_put_48 : decode cX2_put 48 = .ok (.iload_n 2, 1) := by decide +kernel
theorem d_X2_put_49 : decode cX2_put 49 = .ok (.i2s, 1) := by decide +kernel
theorem d_X2_put_50 : decode cX2_put 50 = .ok (.iastore, 1) := by decide +kernel
theorem d_X2_put_51 : decode cX2_put 51 = .ok (.goto 10, 3) := by decide +kernel
theorem d_X2_put_54 : decode cX2_put 54 = .ok (.aload_n 0, 1) := by decide +kernel
theorem d_X2_put_55 : decode cX2_put 55 = .ok (.getfield 18, 3) := by decide +kernel
theorem d_X2_put_58 : decode cX2_put 58 = .ok (.iload_n 1, 1) := by decide +kernel
theorem d_X2_put_59 : decode cX2_put 59 = .ok (.iload_n 2, 1) := by decide +kernel
theorem d_X2_put_60 : decode cX2_put 60 = .ok (.iastore, 1) := by decide +kernel
theorem d_X2_put_61 : decode cX2_put 61 = .ok (.return_, 1) := by decide +kernel
noncomputable def P_X2_put : Nat → Op := fun pc => nd 44 pc (nd 36 pc (nd 4 pc (nd 1 pc (lf 0 pc (oALd 0 1)) (lf 1 pc (oGetI 2 0 4))) (nd 32 pc (lf 4 pc (oSw [(8, 32), (16, 43)] 54)) (nd 33 pc (lf 32 pc (oALd 0 33)) (lf 33 pc (oGetR 2 2 36))))) (nd 39 pc (nd 37 pc (lf 36 pc (oILd 1 37)) (nd 38 pc (lf 37 pc (oILd 2 38)) (lf 38 pc (oUn (fun x => x.toInt8.toInt32) 39)))) (nd 40 pc (lf 39 pc (oIAS 40)) (nd 43 pc (lf 40 pc (oGo 61)) (lf 43 pc (oALd 0 44)))))) (nd 54 pc (nd 49 pc (nd 47 pc (lf 44 pc (oGetR 2 2 47)) (nd 48 pc (lf 47 pc (oILd 1 48)) (lf 48 pc (oILd 2 49)))) (nd 50 pc (lf 49 pc (oUn (fun x => x.toInt16.toInt32) 50)) (nd 51 pc (lf 50 pc (oIAS 51)) (lf 51 pc (oGo 61))))) (nd 59 pc (nd 55 pc (lf 54 pc (oALd 0 55)) (nd 58 pc (lf 55 pc (oGetR 2 2 58)) (lf 58 pc (oILd 1 59)))) (nd 60 pc (lf 59 pc (oILd 2 60)) (nd 61 pc (lf 60 pc (oIAS 61)) (lf 61 pc (oVRet))))))
theorem ok_X2_put {l : Launch} {G : Gm} : ∀ pc, OkU (TXm l G (rmD 1) 3 cX2_put RX2) (RXm l G (rmD 1) 3 cX2_put RX2 none) pc (P_X2_put pc) := fun pc => ok_nd (ok_nd (ok_nd (ok_nd (ok_lf (ok_ALdn d_X2_put_0 rfl rfl)) (ok_lf (ok_GetI (by decide) (by decide) rfl d_X2_put_1 q141 rfl))) (ok_nd (ok_lf (ok_Look d_X2_put_4 (by decide) (by decide) (by decide))) (ok_nd (ok_lf (ok_ALdn d_X2_put_32 rfl rfl)) (ok_lf (ok_GetR (by decide) (by decide) rfl d_X2_put_33 q145 rfl))))) (ok_nd (ok_nd (ok_lf (ok_ILdn d_X2_put_36 rfl rfl)) (ok_nd (ok_lf (ok_ILdn d_X2_put_37 rfl rfl)) (ok_lf (ok_i2b d_X2_put_38 rfl)))) (ok_nd (ok_lf (ok_IAS d_X2_put_39 rfl)) (ok_nd (ok_lf (ok_Go d_X2_put_40 (by decide))) (ok_lf (ok_ALdn d_X2_put_43 rfl rfl)))))) (ok_nd (ok_nd (ok_nd (ok_lf (ok_GetR (by decide) (by decide) rfl d_X2_put_44 q145 rfl)) (ok_nd (ok_lf (ok_ILdn d_X2_put_47 rfl rfl)) (ok_lf (ok_ILdn d_X2_put_48 rfl rfl)))) (ok_nd (ok_lf (ok_i2s d_X2_put_49 rfl)) (ok_nd (ok_lf (ok_IAS d_X2_put_50 rfl)) (ok_lf (ok_Go d_X2_put_51 (by decide)))))) (ok_nd (ok_nd (ok_lf (ok_ALdn d_X2_put_54 rfl rfl)) (ok_nd (ok_lf (ok_GetR (by decide) (by decide) rfl d_X2_put_55 q145 rfl)) (ok_lf (ok_ILdn d_X2_put_58 rfl rfl)))) (ok_nd (ok_lf (ok_ILdn d_X2_put_59 rfl rfl)) (ok_nd (ok_lf (ok_IAS d_X2_put_60 rfl)) (ok_lf (ok_VRet d_X2_put_61))))))
noncomputable def S_X2_put : Sem := lockS (inl P_X2_put 25 3) 0
theorem su_X2_put {l : Launch} {G : Gm} : SemU l G yX2_put (wsOf yX2_put cX2_put 3 none) 1 S_X2_put := sem_lock (sem_inl 25 (by decide +kernel) rfl ok_X2_put)
theorem d_X2_hasRow_0 : decode cX2_hasRow 0 = .ok (.iload_n 1, 1) := by decide +kernel
theorem d_X2_hasRow_1 : decode cX2_hasRow 1 = .ok (.ifCond .lt 29, 3) := by decide +kernel
theorem d_X2_hasRow_4 : decode cX2_hasRow 4 = .ok (.iload_n 2, 1) := by decide +kernel
theorem d_X2_hasRow_5 : decode cX2_hasRow 5 = .ok (.ifCond .lt 25, 3) := by decide +kernel
theorem d_X2_hasRow_8 : decode cX2_hasRow 8 = .ok (.iload_n 2, 1) := by decide +kernel
theorem d_X2_hasRow_9 : decode cX2_hasRow 9 = .ok (.aload_n 0, 1) := by decide +kernel
theorem d_X2_hasRow_10 : decode cX2_hasRow 10 = .ok (.getfield 15, 3) := by decide +kernel
theorem d_X2_hasRow_13 : decode cX2_hasRow 13 = .ok (.if_icmp .gt 17, 3) := by decide +kernel
theorem d_X2_hasRow_16 : decode cX2_hasRow 16 = .ok (.iload_n 1, 1) := by decide +kernel
theorem d_X2_hasRow_17 : decode cX2_hasRow 17 = .ok (.aload_n 0, 1) := by decide +kernel
theorem d_X2_hasRow_18 : decode cX2_hasRow 18 = .ok (.getfield 15, 3) := by decide +kernel
theorem d_X2_hasRow_21 : decode cX2_hasRow 21 = .ok (.iload_n 2, 1) := by decide +kernel
theorem d_X2_hasRow_22 : decode cX2_hasRow 22 = .ok (.isub, 1) := by decide +kernel
theorem d_X2_hasRow_23 : decode cX2_hasRow 23 = .ok (.if_icmp .gt 7, 3) := by decide +kernel
theorem d_X2_hasRow_26 : decode cX2_hasRow 26 = .ok (.iconst 1, 1) := by decide +kernel
theorem d_X2_hasRow_27 : decode cX2_hasRow 27 = .ok (.goto 4, 3) := by decide +kernel
theorem d_X2_hasRow_30 : decode cX2_hasRow 30 = .ok (.iconst 0, 1) := by decide +kernel
theorem d_X2_hasRow_31 : decode cX2_hasRow 31 = .ok (.ireturn, 1) := by decide +kernel
noncomputable def P_X2_hasRow : Nat → Op := fun pc => nd 17 pc (nd 8 pc (nd 4 pc (nd 1 pc (lf 0 pc (oILd 1 1)) (lf 1 pc (oIfLt 30 4))) (nd 5 pc (lf 4 pc (oILd 2 5)) (lf 5 pc (oIfLt 30 8)))) (nd 10 pc (nd 9 pc (lf 8 pc (oILd 2 9)) (lf 9 pc (oALd 0 10))) (nd 13 pc (lf 10 pc (oGetI 2 1 13)) (nd 16 pc (lf 13 pc (oCpGt 30 16)) (lf 16 pc (oILd 1 17)))))) (nd 23 pc (nd 21 pc (nd 18 pc (lf 17 pc (oALd 0 18)) (lf 18 pc (oGetI 2 1 21))) (nd 22 pc (lf 21 pc (oILd 2 22)) (lf 22 pc (oBin (fun x y => x - y) 23)))) (nd 27 pc (nd 26 pc (lf 23 pc (oCpGt 30 26)) (lf 26 pc (oCst 1 27))) (nd 30 pc (lf 27 pc (oGo 31)) (nd 31 pc (lf 30 pc (oCst 0 31)) (lf 31 pc (oZRet))))))
theorem ok_X2_hasRow {l : Launch} {G : Gm} : ∀ pc, OkU (TXm l G (rmD 1) 3 cX2_hasRow RX2) (RXm l G (rmD 1) 3 cX2_hasRow RX2 (some .boolean)) pc (P_X2_hasRow pc) := fun pc => ok_nd (ok_nd (ok_nd (ok_nd (ok_lf (ok_ILdn d_X2_hasRow_0 rfl rfl)) (ok_lf (ok_IfLt d_X2_hasRow_1 (by decide) rfl))) (ok_nd (ok_lf (ok_ILdn d_X2_hasRow_4 rfl rfl)) (ok_lf (ok_IfLt d_X2_hasRow_5 (by decide) rfl)))) (ok_nd (ok_nd (ok_lf (ok_ILdn d_X2_hasRow_8 rfl rfl)) (ok_lf (ok_ALdn d_X2_hasRow_9 rfl rfl))) (ok_nd (ok_lf (ok_GetI (by decide) (by decide) rfl d_X2_hasRow_10 q143 rfl)) (ok_nd (ok_lf (ok_CpGt d_X2_hasRow_13 (by decide) rfl)) (ok_lf (ok_ILdn d_X2_hasRow_16 rfl rfl)))))) (ok_nd (ok_nd (ok_nd (ok_lf (ok_ALdn d_X2_hasRow_17 rfl rfl)) (ok_lf (ok_GetI (by decide) (by decide) rfl d_X2_hasRow_18 q143 rfl))) (ok_nd (ok_lf (ok_ILdn d_X2_hasRow_21 rfl rfl)) (ok_lf (ok_isub d_X2_hasRow_22 rfl)))) (ok_nd (ok_nd (ok_lf (ok_CpGt d_X2_hasRow_23 (by decide) rfl)) (ok_lf (ok_ICst d_X2_hasRow_26 (by decide) rfl))) (ok_nd (ok_lf (ok_Go d_X2_hasRow_27 (by decide))) (ok_nd (ok_lf (ok_ICst d_X2_hasRow_30 (by decide) rfl)) (ok_lf (ok_ZRet d_X2_hasRow_31))))))
noncomputable def S_X2_hasRow : Sem := inl P_X2_hasRow 20 3
theorem su_X2_hasRow {l : Launch} {G : Gm} : SemU l G yX2_hasRow (wsOf yX2_hasRow cX2_hasRow 3 (some .boolean)) 1 S_X2_hasRow := sem_inl 20 (by decide +kernel) rfl ok_X2_hasRow
