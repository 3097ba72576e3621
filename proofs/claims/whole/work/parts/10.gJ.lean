theorem d_J6_bitCount_0f7a4_0 : decode cJ6_bitCount_0f7a4 0 = .ok (.iload_n 0, 1) := by decide +kernel
theorem d_J6_bitCount_0f7a4_1 : decode cJ6_bitCount_0f7a4 1 = .ok (.iload_n 0, 1) := by decide +kernel
theorem d_J6_bitCount_0f7a4_2 : decode cJ6_bitCount_0f7a4 2 = .ok (.iconst 1, 1) := by decide +kernel
theorem d_J6_bitCount_0f7a4_3 : decode cJ6_bitCount_0f7a4 3 = .ok (.iushr, 1) := by decide +kernel
theorem d_J6_bitCount_0f7a4_4 : decode cJ6_bitCount_0f7a4 4 = .ok (.ldc_w 265, 3) := by decide +kernel
theorem d_J6_bitCount_0f7a4_7 : decode cJ6_bitCount_0f7a4 7 = .ok (.iand, 1) := by decide +kernel
theorem d_J6_bitCount_0f7a4_8 : decode cJ6_bitCount_0f7a4 8 = .ok (.isub, 1) := by decide +kernel
theorem d_J6_bitCount_0f7a4_9 : decode cJ6_bitCount_0f7a4 9 = .ok (.istore_n 0, 1) := by decide +kernel
theorem d_J6_bitCount_0f7a4_10 : decode cJ6_bitCount_0f7a4 10 = .ok (.iload_n 0, 1) := by decide +kernel
theorem d_J6_bitCount_0f7a4_11 : decode cJ6_bitCount_0f7a4 11 = .ok (.ldc_w 266, 3) := by decide +kernel
theorem d_J6_bitCount_0f7a4_14 : decode cJ6_bitCount_0f7a4 14 = .ok (.iand, 1) := by decide +kernel
theorem d_J6_bitCount_0f7a4_15 : decode cJ6_bitCount_0f7a4 15 = .ok (.iload_n 0, 1) := by decide +kernel
theorem d_J6_bitCount_0f7a4_16 : decode cJ6_bitCount_0f7a4 16 = .ok (.iconst 2, 1) := by decide +kernel
theorem d_J6_bitCount_0f7a4_17 : decode cJ6_bitCount_0f7a4 17 = .ok (.iushr, 1) := by decide +kernel
theorem d_J6_bitCount_0f7a4_18 : decode cJ6_bitCount_0f7a4 18 = .ok (.ldc_w 266, 3) := by decide +kernel
theorem d_J6_bitCount_0f7a4_21 : decode cJ6_bitCount_0f7a4 21 = .ok (.iand, 1) := by decide +kernel
theorem d_J6_bitCount_0f7a4_22 : decode cJ6_bitCount_0f7a4 22 = .ok (.iadd, 1) := by decide +kernel
theorem d_J6_bitCount_0f7a4_23 : decode cJ6_bitCount_0f7a4 23 = .ok (.istore_n 0, 1) := by decide +kernel
theorem d_J6_bitCount_0f7a4_24 : decode cJ6_bitCount_0f7a4 24 = .ok (.iload_n 0, 1) := by decide +kernel
theorem d_J6_bitCount_0f7a4_25 : decode cJ6_bitCount_0f7a4 25 = .ok (.iload_n 0, 1) := by decide +kernel
theorem d_J6_bitCount_0f7a4_26 : decode cJ6_bitCount_0f7a4 26 = .ok (.iconst 4, 1) := by decide +kernel
theorem d_J6_bitCount_0f7a4_27 : decode cJ6_bitCount_0f7a4 27 = .ok (.iushr, 1) := by decide +kernel
theorem d_J6_bitCount_0f7a4_28 : decode cJ6_bitCount_0f7a4 28 = .ok (.iadd, 1) := by decide +kernel
theorem d_J6_bitCount_0f7a4_29 : decode cJ6_bitCount_0f7a4 29 = .ok (.ldc_w 267, 3) := by decide +kernel
theorem d_J6_bitCount_0f7a4_32 : decode cJ6_bitCount_0f7a4 32 = .ok (.iand, 1) := by decide +kernel
theorem d_J6_bitCount_0f7a4_33 : decode cJ6_bitCount_0f7a4 33 = .ok (.istore_n 0, 1) := by decide +kernel
theorem d_J6_bitCount_0f7a4_34 : decode cJ6_bitCount_0f7a4 34 = .ok (.iload_n 0, 1) := by decide +kernel
theorem d_J6_bitCount_0f7a4_35 : decode cJ6_bitCount_0f7a4 35 = .ok (.iload_n 0, 1) := by decide +kernel
theorem d_J6_bitCount_0f7a4_36 : decode cJ6_bitCount_0f7a4 36 = .ok (.bipush 8, 2) := by decide +kernel
theorem d_J6_bitCount_0f7a4_38 : decode cJ6_bitCount_0f7a4 38 = .ok (.iushr, 1) := by decide +kernel
theorem d_J6_bitCount_0f7a4_39 : decode cJ6_bitCount_0f7a4 39 = .ok (.iadd, 1) := by decide +kernel
theorem d_J6_bitCount_0f7a4_40 : decode cJ6_bitCount_0f7a4 40 = .ok (.istore_n 0, 1) := by decide +kernel
theorem d_J6_bitCount_0f7a4_41 : decode cJ6_bitCount_0f7a4 41 = .ok (.iload_n 0, 1) := by decide +kernel
theorem d_J6_bitCount_0f7a4_42 : decode cJ6_bitCount_0f7a4 42 = .ok (.iload_n 0, 1) := by decide +kernel
theorem d_J6_bitCount_0f7a4_43 : decode cJ6_bitCount_0f7a4 43 = .ok (.bipush 16, 2) := by decide +kernel
theorem d_J6_bitCount_0f7a4_45 : decode cJ6_bitCount_0f7a4 45 = .ok (.iushr, 1) := by decide +kernel
theorem d_J6_bitCount_0f7a4_46 : decode cJ6_bitCount_0f7a4 46 = .ok (.iadd, 1) := by decide +kernel
theorem d_J6_bitCount_0f7a4_47 : decode cJ6_bitCount_0f7a4 47 = .ok (.istore_n 0, 1) := by decide +kernel
theorem d_J6_bitCount_0f7a4_48 : decode cJ6_bitCount_0f7a4 48 = .ok (.iload_n 0, 1) := by decide +kernel
theorem d_J6_bitCount_0f7a4_49 : decode cJ6_bitCount_0f7a4 49 = .ok (.bipush 63, 2) := by decide +kernel
theorem d_J6_bitCount_0f7a4_51 : decode cJ6_bitCount_0f7a4 51 = .ok (.iand, 1) := by decide +kernel
theorem d_J6_bitCount_0f7a4_52 : decode cJ6_bitCount_0f7a4 52 = .ok (.ireturn, 1) := by decide +kernel
noncomputable def P_J6_bitCount_0f7a4 : Nat → Op := fun pc => nd 27 pc (nd 14 pc (nd 7 pc (nd 2 pc (nd 1 pc (lf 0 pc (oILd 0 1)) (lf 1 pc (oILd 0 2))) (nd 3 pc (lf 2 pc (oCst 1 3)) (nd 4 pc (lf 3 pc (oBin (fun x y => (x.toUInt32 >>> (y.toUInt32 &&& Int32.toUInt32 31)).toInt32) 4)) (lf 4 pc (oCst (1431655765) 7))))) (nd 9 pc (nd 8 pc (lf 7 pc (oBin (fun x y => x &&& y) 8)) (lf 8 pc (oBin (fun x y => x - y) 9))) (nd 10 pc (lf 9 pc (oISt 0 10)) (nd 11 pc (lf 10 pc (oILd 0 11)) (lf 11 pc (oCst (858993459) 14)))))) (nd 21 pc (nd 16 pc (nd 15 pc (lf 14 pc (oBin (fun x y => x &&& y) 15)) (lf 15 pc (oILd 0 16))) (nd 17 pc (lf 16 pc (oCst 2 17)) (nd 18 pc (lf 17 pc (oBin (fun x y => (x.toUInt32 >>> (y.toUInt32 &&& Int32.toUInt32 31)).toInt32) 18)) (lf 18 pc (oCst (858993459) 21))))) (nd 24 pc (nd 22 pc (lf 21 pc (oBin (fun x y => x &&& y) 22)) (nd 23 pc (lf 22 pc (oBin (fun x y => x + y) 23)) (lf 23 pc (oISt 0 24)))) (nd 25 pc (lf 24 pc (oILd 0 25)) (nd 26 pc (lf 25 pc (oILd 0 26)) (lf 26 pc (oCst 4 27))))))) (nd 40 pc (nd 34 pc (nd 29 pc (nd 28 pc (lf 27 pc (oBin (fun x y => (x.toUInt32 >>> (y.toUInt32 &&& Int32.toUInt32 31)).toInt32) 28)) (lf 28 pc (oBin (fun x y => x + y) 29))) (nd 32 pc (lf 29 pc (oCst (252645135) 32)) (nd 33 pc (lf 32 pc (oBin (fun x y => x &&& y) 33)) (lf 33 pc (oISt 0 34))))) (nd 36 pc (nd 35 pc (lf 34 pc (oILd 0 35)) (lf 35 pc (oILd 0 36))) (nd 38 pc (lf 36 pc (oCst 8 38)) (nd 39 pc (lf 38 pc (oBin (fun x y => (x.toUInt32 >>> (y.toUInt32 &&& Int32.toUInt32 31)).toInt32) 39)) (lf 39 pc (oBin (fun x y => x + y) 40)))))) (nd 46 pc (nd 42 pc (nd 41 pc (lf 40 pc (oISt 0 41)) (lf 41 pc (oILd 0 42))) (nd 43 pc (lf 42 pc (oILd 0 43)) (nd 45 pc (lf 43 pc (oCst 16 45)) (lf 45 pc (oBin (fun x y => (x.toUInt32 >>> (y.toUInt32 &&& Int32.toUInt32 31)).toInt32) 46))))) (nd 49 pc (nd 47 pc (lf 46 pc (oBin (fun x y => x + y) 47)) (nd 48 pc (lf 47 pc (oISt 0 48)) (lf 48 pc (oILd 0 49)))) (nd 51 pc (lf 49 pc (oCst 63 51)) (nd 52 pc (lf 51 pc (oBin (fun x y => x &&& y) 52)) (lf 52 pc (oIRet)))))))
theorem ok_J6_bitCount_0f7a4 {l : Launch} {G : Gm} : ∀ pc, OkU (TXm l G (rmD 1) 1 cJ6_bitCount_0f7a4 RJ6) (RXm l G (rmD 1) 1 cJ6_bitCount_0f7a4 RJ6 (some .int)) pc (P_J6_bitCount_0f7a4 pc) := fun pc => ok_nd (ok_nd (ok_nd (ok_nd (ok_nd (ok_lf (ok_ILdn d_J6_bitCount_0f7a4_0 rfl rfl)) (ok_lf (ok_ILdn d_J6_bitCount_0f7a4_1 rfl rfl))) (ok_nd (ok_lf (ok_ICst d_J6_bitCount_0f7a4_2 (by decide) rfl)) (ok_nd (ok_lf (ok_iushr d_J6_bitCount_0f7a4_3 rfl)) (ok_lf (ok_LdcW d_J6_bitCount_0f7a4_4 q431 rfl))))) (ok_nd (ok_nd (ok_lf (ok_iand d_J6_bitCount_0f7a4_7 rfl)) (ok_lf (ok_isub d_J6_bitCount_0f7a4_8 rfl))) (ok_nd (ok_lf (ok_IStn d_J6_bitCount_0f7a4_9 rfl rfl)) (ok_nd (ok_lf (ok_ILdn d_J6_bitCount_0f7a4_10 rfl rfl)) (ok_lf (ok_LdcW d_J6_bitCount_0f7a4_11 q432 rfl)))))) (ok_nd (ok_nd (ok_nd (ok_lf (ok_iand d_J6_bitCount_0f7a4_14 rfl)) (ok_lf (ok_ILdn d_J6_bitCount_0f7a4_15 rfl rfl))) (ok_nd (ok_lf (ok_ICst d_J6_bitCount_0f7a4_16 (by decide) rfl)) (ok_nd (ok_lf (ok_iushr d_J6_bitCount_0f7a4_17 rfl)) (ok_lf (ok_LdcW d_J6_bitCount_0f7a4_18 q432 rfl))))) (ok_nd (ok_nd (ok_lf (ok_iand d_J6_bitCount_0f7a4_21 rfl)) (ok_nd (ok_lf (ok_iadd d_J6_bitCount_0f7a4_22 rfl)) (ok_lf (ok_IStn d_J6_bitCount_0f7a4_23 rfl rfl)))) (ok_nd (ok_lf (ok_ILdn d_J6_bitCount_0f7a4_24 rfl rfl)) (ok_nd (ok_lf (ok_ILdn d_J6_bitCount_0f7a4_25 rfl rfl)) (ok_lf (ok_ICst d_J6_bitCount_0f7a4_26 (by decide) rfl))))))) (ok_nd (ok_nd (ok_nd (ok_nd (ok_lf (ok_iushr d_J6_bitCount_0f7a4_27 rfl)) (ok_lf (ok_iadd d_J6_bitCount_0f7a4_28 rfl))) (ok_nd (ok_lf (ok_LdcW d_J6_bitCount_0f7a4_29 q433 rfl)) (ok_nd (ok_lf (ok_iand d_J6_bitCount_0f7a4_32 rfl)) (ok_lf (ok_IStn d_J6_bitCount_0f7a4_33 rfl rfl))))) (ok_nd (ok_nd (ok_lf (ok_ILdn d_J6_bitCount_0f7a4_34 rfl rfl)) (ok_lf (ok_ILdn d_J6_bitCount_0f7a4_35 rfl rfl))) (ok_nd (ok_lf (ok_BCst d_J6_bitCount_0f7a4_36 (by decide) rfl)) (ok_nd (ok_lf (ok_iushr d_J6_bitCount_0f7a4_38 rfl)) (ok_lf (ok_iadd d_J6_bitCount_0f7a4_39 rfl)))))) (ok_nd (ok_nd (ok_nd (ok_lf (ok_IStn d_J6_bitCount_0f7a4_40 rfl rfl)) (ok_lf (ok_ILdn d_J6_bitCount_0f7a4_41 rfl rfl))) (ok_nd (ok_lf (ok_ILdn d_J6_bitCount_0f7a4_42 rfl rfl)) (ok_nd (ok_lf (ok_BCst d_J6_bitCount_0f7a4_43 (by decide) rfl)) (ok_lf (ok_iushr d_J6_bitCount_0f7a4_45 rfl))))) (ok_nd (ok_nd (ok_lf (ok_iadd d_J6_bitCount_0f7a4_46 rfl)) (ok_nd (ok_lf (ok_IStn d_J6_bitCount_0f7a4_47 rfl rfl)) (ok_lf (ok_ILdn d_J6_bitCount_0f7a4_48 rfl rfl)))) (ok_nd (ok_lf (ok_BCst d_J6_bitCount_0f7a4_49 (by decide) rfl)) (ok_nd (ok_lf (ok_iand d_J6_bitCount_0f7a4_51 rfl)) (ok_lf (ok_IRet d_J6_bitCount_0f7a4_52)))))))
noncomputable def S_J6_bitCount_0f7a4 : Sem := lockS (inl P_J6_bitCount_0f7a4 44 1) 0
theorem su_J6_bitCount_0f7a4 {l : Launch} {G : Gm} : SemU l G yJ6_bitCount_0f7a4 (wsOf yJ6_bitCount_0f7a4 cJ6_bitCount_0f7a4 1 (some .int)) 1 S_J6_bitCount_0f7a4 := sem_lock (sem_inl 44 (by decide +kernel) rfl ok_J6_bitCount_0f7a4)
theorem d_J0_coder_7d493_0 : decode cJ0_coder_7d493 0 = .ok (.getstatic 38, 3) := by decide +kernel
theorem d_J0_coder_7d493_3 : decode cJ0_coder_7d493 3 = .ok (.ifCond .eq 10, 3) := by decide +kernel
theorem d_J0_coder_7d493_6 : decode cJ0_coder_7d493 6 = .ok (.aload_n 0, 1) := by decide +kernel
theorem d_J0_coder_7d493_7 : decode cJ0_coder_7d493 7 = .ok (.getfield 15, 3) := by decide +kernel
theorem d_J0_coder_7d493_10 : decode cJ0_coder_7d493 10 = .ok (.goto 4, 3) := by decide +kernel
theorem d_J0_coder_7d493_13 : decode cJ0_coder_7d493 13 = .ok (.iconst 1, 1) := by decide +kernel
theorem d_J0_coder_7d493_14 : decode cJ0_coder_7d493 14 = .ok (.ireturn, 1) := by decide +kernel
noncomputable def P_J0_coder_7d493 : Nat → Op := fun pc => nd 7 pc (nd 3 pc (lf 0 pc (oGsC 3)) (nd 6 pc (lf 3 pc (oIfEq 13 6)) (lf 6 pc (oALd 0 7)))) (nd 13 pc (nd 10 pc (lf 7 pc (oStrC 10)) (lf 10 pc (oGo 14))) (nd 14 pc (lf 13 pc (oCst 1 14)) (lf 14 pc (oBRet))))
theorem ok_J0_coder_7d493 {l : Launch} {G : Gm} : ∀ pc, OkU (TXm l G (rmD 1) 1 cJ0_coder_7d493 RJ0) (RXm l G (rmD 1) 1 cJ0_coder_7d493 RJ0 (some .byte)) pc (P_J0_coder_7d493 pc) := fun pc => ok_nd (ok_nd (ok_lf (ok_GsC d_J0_coder_7d493_0 q542 rfl)) (ok_nd (ok_lf (ok_IfEq d_J0_coder_7d493_3 (by decide) rfl)) (ok_lf (ok_ALdn d_J0_coder_7d493_6 rfl rfl)))) (ok_nd (ok_nd (ok_lf (ok_StrC d_J0_coder_7d493_7 q1180 rfl)) (ok_lf (ok_Go d_J0_coder_7d493_10 (by decide)))) (ok_nd (ok_lf (ok_ICst d_J0_coder_7d493_13 (by decide) rfl)) (ok_lf (ok_BRet d_J0_coder_7d493_14))))
noncomputable def S_J0_coder_7d493 : Sem := inl P_J0_coder_7d493 9 1
theorem su_J0_coder_7d493 {l : Launch} {G : Gm} : SemU l G yJ0_coder_7d493 (wsOf yJ0_coder_7d493 cJ0_coder_7d493 1 (some .byte)) 1 S_J0_coder_7d493 := sem_inl 9 (by decide +kernel) rfl ok_J0_coder_7d493
theorem d_J0_isLatin1_aae02_0 : decode cJ0_isLatin1_aae02 0 = .ok (.getstatic 38, 3) := by decide +kernel
theorem d_J0_isLatin1_aae02_3 : decode cJ0_isLatin1_aae02 3 = .ok (.ifCond .eq 14, 3) := by decide +kernel
theorem d_J0_isLatin1_aae02_6 : decode cJ0_isLatin1_aae02 6 = .ok (.aload_n 0, 1) := by decide +kernel
theorem d_J0_isLatin1_aae02_7 : decode cJ0_isLatin1_aae02 7 = .ok (.getfield 15, 3) := by decide +kernel
theorem d_J0_isLatin1_aae02_10 : decode cJ0_isLatin1_aae02 10 = .ok (.ifCond .ne 7, 3) := by decide +kernel
theorem d_J0_isLatin1_aae02_13 : decode cJ0_isLatin1_aae02 13 = .ok (.iconst 1, 1) := by decide +kernel
theorem d_J0_isLatin1_aae02_14 : decode cJ0_isLatin1_aae02 14 = .ok (.goto 4, 3) := by decide +kernel
theorem d_J0_isLatin1_aae02_17 : decode cJ0_isLatin1_aae02 17 = .ok (.iconst 0, 1) := by decide +kernel
theorem d_J0_isLatin1_aae02_18 : decode cJ0_isLatin1_aae02 18 = .ok (.ireturn, 1) := by decide +kernel
noncomputable def P_J0_isLatin1_aae02 : Nat → Op := fun pc => nd 10 pc (nd 6 pc (nd 3 pc (lf 0 pc (oGsC 3)) (lf 3 pc (oIfEq 17 6))) (nd 7 pc (lf 6 pc (oALd 0 7)) (lf 7 pc (oStrC 10)))) (nd 14 pc (nd 13 pc (lf 10 pc (oIfEq 13 17)) (lf 13 pc (oCst 1 14))) (nd 17 pc (lf 14 pc (oGo 18)) (nd 18 pc (lf 17 pc (oCst 0 18)) (lf 18 pc (oZRet)))))
theorem ok_J0_isLatin1_aae02 {l : Launch} {G : Gm} : ∀ pc, OkU (TXm l G (rmD 1) 1 cJ0_isLatin1_aae02 RJ0) (RXm l G (rmD 1) 1 cJ0_isLatin1_aae02 RJ0 (some .boolean)) pc (P_J0_isLatin1_aae02 pc) := fun pc => ok_nd (ok_nd (ok_nd (ok_lf (ok_GsC d_J0_isLatin1_aae02_0 q542 rfl)) (ok_lf (ok_IfEq d_J0_isLatin1_aae02_3 (by decide) rfl))) (ok_nd (ok_lf (ok_ALdn d_J0_isLatin1_aae02_6 rfl rfl)) (ok_lf (ok_StrC d_J0_isLatin1_aae02_7 q1180 rfl)))) (ok_nd (ok_nd (ok_lf (ok_IfNe d_J0_isLatin1_aae02_10 (by decide) rfl)) (ok_lf (ok_ICst d_J0_isLatin1_aae02_13 (by decide) rfl))) (ok_nd (ok_lf (ok_Go d_J0_isLatin1_aae02_14 (by decide))) (ok_nd (ok_lf (ok_ICst d_J0_isLatin1_aae02_17 (by decide) rfl)) (ok_lf (ok_ZRet d_J0_isLatin1_aae02_18)))))
noncomputable def S_J0_isLatin1_aae02 : Sem := inl P_J0_isLatin1_aae02 11 1
theorem su_J0_isLatin1_aae02 {l : Launch} {G : Gm} : SemU l G yJ0_isLatin1_aae02 (wsOf yJ0_isLatin1_aae02 cJ0_isLatin1_aae02 1 (some .boolean)) 1 S_J0_isLatin1_aae02 := sem_inl 11 (by decide +kernel) rfl ok_J0_isLatin1_aae02
theorem d_J0_length_8abf5_0 : decode cJ0_length_8abf5 0 = .ok (.aload_n 0, 1) := by decide +kernel
theorem d_J0_length_8abf5_1 : decode cJ0_length_8abf5 1 = .ok (.getfield 9, 3) := by decide +kernel
theorem d_J0_length_8abf5_4 : decode cJ0_length_8abf5 4 = .ok (.arraylength, 1) := by decide +kernel
theorem d_J0_length_8abf5_5 : decode cJ0_length_8abf5 5 = .ok (.aload_n 0, 1) := by decide +kernel
theorem d_J0_length_8abf5_6 : decode cJ0_length_8abf5 6 = .ok (.invokevirtual 335, 3) := by decide +kernel
theorem d_J0_length_8abf5_9 : decode cJ0_length_8abf5 9 = .ok (.ishr, 1) := by decide +kernel
theorem d_J0_length_8abf5_10 : decode cJ0_length_8abf5 10 = .ok (.ireturn, 1) := by decide +kernel
noncomputable def P_J0_length_8abf5 : Nat → Op := fun pc => nd 5 pc (nd 1 pc (lf 0 pc (oALd 0 1)) (nd 4 pc (lf 1 pc (oStrV 4)) (lf 4 pc (oBLen 5)))) (nd 9 pc (nd 6 pc (lf 5 pc (oALd 0 6)) (lf 6 pc (oCaV 1 11 S_J0_coder_7d493 9))) (nd 10 pc (lf 9 pc (oBin (fun x y => x >>> (y &&& 31)) 10)) (lf 10 pc (oIRet))))
theorem ok_J0_length_8abf5 {l : Launch} {G : Gm} : ∀ pc, OkU (TXm l G (rmD 2) 1 cJ0_length_8abf5 RJ0) (RXm l G (rmD 2) 1 cJ0_length_8abf5 RJ0 (some .int)) pc (P_J0_length_8abf5 pc) := fun pc => ok_nd (ok_nd (ok_lf (ok_ALdn d_J0_length_8abf5_0 rfl rfl)) (ok_nd (ok_lf (ok_StrV d_J0_length_8abf5_1 q1179 rfl)) (ok_lf (ok_BLen d_J0_length_8abf5_4 rfl)))) (ok_nd (ok_nd (ok_lf (ok_ALdn d_J0_length_8abf5_5 rfl rfl)) (ok_lf (ok_CaT su_J0_coder_7d493 d_J0_length_8abf5_6 q538 q539 q540 q10 q541 ⟨by decide +kernel, by decide +kernel, by decide +kernel⟩ ⟨by decide, by decide⟩ rfl))) (ok_nd (ok_lf (ok_ishr d_J0_length_8abf5_9 rfl)) (ok_lf (ok_IRet d_J0_length_8abf5_10))))
noncomputable def S_J0_length_8abf5 : Sem := lockS (inl P_J0_length_8abf5 9 1) 0
theorem su_J0_length_8abf5 {l : Launch} {G : Gm} : SemU l G yJ0_length_8abf5 (wsOf yJ0_length_8abf5 cJ0_length_8abf5 1 (some .int)) 2 S_J0_length_8abf5 := sem_lock (sem_inl 9 (by decide +kernel) rfl ok_J0_length_8abf5)
theorem d_J3_checkIndex_8e157_0 : decode cJ3_checkIndex_8e157 0 = .ok (.iload_n 0, 1) := by decide +kernel
theorem d_J3_checkIndex_8e157_1 : decode cJ3_checkIndex_8e157 1 = .ok (.ifCond .lt 8, 3) := by decide +kernel
theorem d_J3_checkIndex_8e157_4 : decode cJ3_checkIndex_8e157 4 = .ok (.iload_n 0, 1) := by decide +kernel
theorem d_J3_checkIndex_8e157_5 : decode cJ3_checkIndex_8e157 5 = .ok (.iload_n 1, 1) := by decide +kernel
theorem d_J3_checkIndex_8e157_6 : decode cJ3_checkIndex_8e157 6 = .ok (.if_icmp .lt 10, 3) := by decide +kernel
theorem d_J3_checkIndex_8e157_9 : decode cJ3_checkIndex_8e157 9 = .ok (.aload_n 2, 1) := by decide +kernel
theorem d_J3_checkIndex_8e157_10 : decode cJ3_checkIndex_8e157 10 = .ok (.iload_n 0, 1) := by decide +kernel
theorem d_J3_checkIndex_8e157_11 : decode cJ3_checkIndex_8e157 11 = .ok (.iload_n 1, 1) := by decide +kernel
theorem d_J3_checkIndex_8e157_16 : decode cJ3_checkIndex_8e157 16 = .ok (.iload_n 0, 1) := by decide +kernel
theorem d_J3_checkIndex_8e157_17 : decode cJ3_checkIndex_8e157 17 = .ok (.ireturn, 1) := by decide +kernel
noncomputable def P_J3_checkIndex_8e157 : Nat → Op := fun pc => nd 10 pc (nd 5 pc (nd 1 pc (lf 0 pc (oILd 0 1)) (nd 4 pc (lf 1 pc (oIfLt 9 4)) (lf 4 pc (oILd 0 5)))) (nd 6 pc (lf 5 pc (oILd 1 6)) (nd 9 pc (lf 6 pc (oCpLt 16 9)) (lf 9 pc (oALd 2 10))))) (nd 15 pc (nd 11 pc (lf 10 pc (oILd 0 11)) (nd 12 pc (lf 11 pc (oILd 1 12)) (lf 12 pc (oFail)))) (nd 16 pc (lf 15 pc (oFail)) (nd 17 pc (lf 16 pc (oILd 0 17)) (lf 17 pc (oIRet)))))
theorem ok_J3_checkIndex_8e157 {l : Launch} {G : Gm} : ∀ pc, OkU (TXm l G (rmD 1) 3 cJ3_checkIndex_8e157 RJ3) (RXm l G (rmD 1) 3 cJ3_checkIndex_8e157 RJ3 (some .int)) pc (P_J3_checkIndex_8e157 pc) := fun pc => ok_nd (ok_nd (ok_nd (ok_lf (ok_ILdn d_J3_checkIndex_8e157_0 rfl rfl)) (ok_nd (ok_lf (ok_IfLt d_J3_checkIndex_8e157_1 (by decide) rfl)) (ok_lf (ok_ILdn d_J3_checkIndex_8e157_4 rfl rfl)))) (ok_nd (ok_lf (ok_ILdn d_J3_checkIndex_8e157_5 rfl rfl)) (ok_nd (ok_lf (ok_CpLt d_J3_checkIndex_8e157_6 (by decide) rfl)) (ok_lf (ok_ALdn d_J3_checkIndex_8e157_9 rfl rfl))))) (ok_nd (ok_nd (ok_lf (ok_ILdn d_J3_checkIndex_8e157_10 rfl rfl)) (ok_nd (ok_lf (ok_ILdn d_J3_checkIndex_8e157_11 rfl rfl)) (ok_lf (ok_fail)))) (ok_nd (ok_lf (ok_fail)) (ok_nd (ok_lf (ok_ILdn d_J3_checkIndex_8e157_16 rfl rfl)) (ok_lf (ok_IRet d_J3_checkIndex_8e157_17)))))
noncomputable def S_J3_checkIndex_8e157 : Sem := inl P_J3_checkIndex_8e157 14 3
theorem su_J3_checkIndex_8e157 {l : Launch} {G : Gm} : SemU l G yJ3_checkIndex_8e157 (wsOf yJ3_checkIndex_8e157 cJ3_checkIndex_8e157 3 (some .int)) 1 S_J3_checkIndex_8e157 := sem_inl 14 (by decide +kernel) rfl ok_J3_checkIndex_8e157
theorem d_J0_checkIndex_df160_0 : decode cJ0_checkIndex_df160 0 = .ok (.iload_n 0, 1) := by decide +kernel
theorem d_J0_checkIndex_df160_1 : decode cJ0_checkIndex_df160 1 = .ok (.iload_n 1, 1) := by decide +kernel
theorem d_J0_checkIndex_df160_2 : decode cJ0_checkIndex_df160 2 = .ok (.getstatic 1053, 3) := by decide +kernel
theorem d_J0_checkIndex_df160_5 : decode cJ0_checkIndex_df160 5 = .ok (.invokestatic 1059, 3) := by decide +kernel
theorem d_J0_checkIndex_df160_8 : decode cJ0_checkIndex_df160 8 = .ok (.pop, 1) := by decide +kernel
theorem d_J0_checkIndex_df160_9 : decode cJ0_checkIndex_df160 9 = .ok (.return_, 1) := by decide +kernel
noncomputable def P_J0_checkIndex_df160 : Nat → Op := fun pc => nd 5 pc (nd 1 pc (lf 0 pc (oILd 0 1)) (nd 2 pc (lf 1 pc (oILd 1 2)) (lf 2 pc (oGsF 5)))) (nd 8 pc (lf 5 pc (oCaS 3 S_J3_checkIndex_8e157 8)) (nd 9 pc (lf 8 pc (oPop 9)) (lf 9 pc (oVRet))))
theorem ok_J0_checkIndex_df160 {l : Launch} {G : Gm} : ∀ pc, OkU (TXm l G (rmD 2) 2 cJ0_checkIndex_df160 RJ0) (RXm l G (rmD 2) 2 cJ0_checkIndex_df160 RJ0 none) pc (P_J0_checkIndex_df160 pc) := fun pc => ok_nd (ok_nd (ok_lf (ok_ILdn d_J0_checkIndex_df160_0 rfl rfl)) (ok_nd (ok_lf (ok_ILdn d_J0_checkIndex_df160_1 rfl rfl)) (ok_lf (ok_GsF d_J0_checkIndex_df160_2 q558 rfl)))) (ok_nd (ok_lf (ok_CaS su_J3_checkIndex_8e157 d_J0_checkIndex_df160_5 q560 q561 q12 q562 ⟨by decide +kernel, by decide +kernel, by decide +kernel⟩ ⟨by decide, by decide⟩ rfl)) (ok_nd (ok_lf (ok_Pop d_J0_checkIndex_df160_8 rfl)) (ok_lf (ok_VRet d_J0_checkIndex_df160_9))))
noncomputable def S_J0_checkIndex_df160 : Sem := inl P_J0_checkIndex_df160 8 2
theorem su_J0_checkIndex_df160 {l : Launch} {G : Gm} : SemU l G yJ0_checkIndex_df160 (wsOf yJ0_checkIndex_df160 cJ0_checkIndex_df160 2 none) 2 S_J0_checkIndex_df160 := sem_inl 8 (by decide +kernel) rfl ok_J0_checkIndex_df160
theorem d_J1_charAt_3b067_0 : decode cJ1_charAt_3b067 0 = .ok (.iload_n 1, 1) := by decide +kernel
theorem d_J1_charAt_3b067_1 : decode cJ1_charAt_3b067 1 = .ok (.aload_n 0, 1) := by decide +kernel
theorem d_J1_charAt_3b067_2 : decode cJ1_charAt_3b067 2 = .ok (.arraylength, 1) := by decide +kernel
theorem d_J1_charAt_3b067_3 : decode cJ1_charAt_3b067 3 = .ok (.invokestatic 9, 3) := by decide +kernel
theorem d_J1_charAt_3b067_6 : decode cJ1_charAt_3b067 6 = .ok (.aload_n 0, 1) := by decide +kernel
theorem d_J1_charAt_3b067_7 : decode cJ1_charAt_3b067 7 = .ok (.iload_n 1, 1) := by decide +kernel
theorem d_J1_charAt_3b067_8 : decode cJ1_charAt_3b067 8 = .ok (.baload, 1) := by decide +kernel
theorem d_J1_charAt_3b067_9 : decode cJ1_charAt_3b067 9 = .ok (.sipush 255, 3) := by decide +kernel
theorem d_J1_charAt_3b067_12 : decode cJ1_charAt_3b067 12 = .ok (.iand, 1) := by decide +kernel
theorem d_J1_charAt_3b067_13 : decode cJ1_charAt_3b067 13 = .ok (.i2c, 1) := by decide +kernel
theorem d_J1_charAt_3b067_14 : decode cJ1_charAt_3b067 14 = .ok (.ireturn, 1) := by decide +kernel
noncomputable def P_J1_charAt_3b067 : Nat → Op := fun pc => nd 7 pc (nd 2 pc (nd 1 pc (lf 0 pc (oILd 1 1)) (lf 1 pc (oALd 0 2))) (nd 3 pc (lf 2 pc (oBLen 3)) (nd 6 pc (lf 3 pc (oCaS 2 S_J0_checkIndex_df160 6)) (lf 6 pc (oALd 0 7))))) (nd 12 pc (nd 8 pc (lf 7 pc (oILd 1 8)) (nd 9 pc (lf 8 pc (oBAL 9)) (lf 9 pc (oCst 255 12)))) (nd 13 pc (lf 12 pc (oBin (fun x y => x &&& y) 13)) (nd 14 pc (lf 13 pc (oUn (fun x => (x.toUInt32 % 65536).toInt32) 14)) (lf 14 pc (oCRet)))))
theorem ok_J1_charAt_3b067 {l : Launch} {G : Gm} : ∀ pc, OkU (TXm l G (rmD 3) 2 cJ1_charAt_3b067 RJ1) (RXm l G (rmD 3) 2 cJ1_charAt_3b067 RJ1 (some .char)) pc (P_J1_charAt_3b067 pc) := fun pc => ok_nd (ok_nd (ok_nd (ok_lf (ok_ILdn d_J1_charAt_3b067_0 rfl rfl)) (ok_lf (ok_ALdn d_J1_charAt_3b067_1 rfl rfl))) (ok_nd (ok_lf (ok_BLen d_J1_charAt_3b067_2 rfl)) (ok_nd (ok_lf (ok_CaS su_J0_checkIndex_df160 d_J1_charAt_3b067_3 q555 q556 q10 q557 ⟨by decide +kernel, by decide +kernel, by decide +kernel⟩ ⟨by decide, by decide⟩ rfl)) (ok_lf (ok_ALdn d_J1_charAt_3b067_6 rfl rfl))))) (ok_nd (ok_nd (ok_lf (ok_ILdn d_J1_charAt_3b067_7 rfl rfl)) (ok_nd (ok_lf (ok_BAL d_J1_charAt_3b067_8 rfl)) (ok_lf (ok_SCst d_J1_charAt_3b067_9 (by decide) rfl)))) (ok_nd (ok_lf (ok_iand d_J1_charAt_3b067_12 rfl)) (ok_nd (ok_lf (ok_i2c d_J1_charAt_3b067_13 rfl)) (ok_lf (ok_CRet d_J1_charAt_3b067_14)))))
noncomputable def S_J1_charAt_3b067 : Sem := inl P_J1_charAt_3b067 13 2
theorem su_J1_charAt_3b067 {l : Launch} {G : Gm} : SemU l G yJ1_charAt_3b067 (wsOf yJ1_charAt_3b067 cJ1_charAt_3b067 2 (some .char)) 3 S_J1_charAt_3b067 := sem_inl 13 (by decide +kernel) rfl ok_J1_charAt_3b067
theorem d_J0_charAt_5068e_0 : decode cJ0_charAt_5068e 0 = .ok (.aload_n 0, 1) := by decide +kernel
theorem d_J0_charAt_5068e_1 : decode cJ0_charAt_5068e 1 = .ok (.invokevirtual 492, 3) := by decide +kernel
theorem d_J0_charAt_5068e_4 : decode cJ0_charAt_5068e 4 = .ok (.ifCond .eq 12, 3) := by decide +kernel
theorem d_J0_charAt_5068e_7 : decode cJ0_charAt_5068e 7 = .ok (.aload_n 0, 1) := by decide +kernel
theorem d_J0_charAt_5068e_8 : decode cJ0_charAt_5068e 8 = .ok (.getfield 9, 3) := by decide +kernel
theorem d_J0_charAt_5068e_11 : decode cJ0_charAt_5068e 11 = .ok (.iload_n 1, 1) := by decide +kernel
theorem d_J0_charAt_5068e_12 : decode cJ0_charAt_5068e 12 = .ok (.invokestatic 495, 3) := by decide +kernel
theorem d_J0_charAt_5068e_15 : decode cJ0_charAt_5068e 15 = .ok (.ireturn, 1) := by decide +kernel
theorem d_J0_charAt_5068e_16 : decode cJ0_charAt_5068e 16 = .ok (.aload_n 0, 1) := by decide +kernel
theorem d_J0_charAt_5068e_17 : decode cJ0_charAt_5068e 17 = .ok (.getfield 9, 3) := by decide +kernel
theorem d_J0_charAt_5068e_20 : decode cJ0_charAt_5068e 20 = .ok (.iload_n 1, 1) := by decide +kernel
theorem d_J0_charAt_5068e_24 : decode cJ0_charAt_5068e 24 = .ok (.ireturn, 1) := by decide +kernel
noncomputable def P_J0_charAt_5068e : Nat → Op := fun pc => nd 12 pc (nd 7 pc (nd 1 pc (lf 0 pc (oALd 0 1)) (nd 4 pc (lf 1 pc (oCaV 1 11 S_J0_isLatin1_aae02 4)) (lf 4 pc (oIfEq 16 7)))) (nd 8 pc (lf 7 pc (oALd 0 8)) (nd 11 pc (lf 8 pc (oStrV 11)) (lf 11 pc (oILd 1 12))))) (nd 17 pc (nd 15 pc (lf 12 pc (oCaS 2 S_J1_charAt_3b067 15)) (nd 16 pc (lf 15 pc (oCRet)) (lf 16 pc (oALd 0 17)))) (nd 21 pc (nd 20 pc (lf 17 pc (oStrV 20)) (lf 20 pc (oILd 1 21))) (nd 24 pc (lf 21 pc (oFail)) (lf 24 pc (oCRet)))))
theorem ok_J0_charAt_5068e {l : Launch} {G : Gm} : ∀ pc, OkU (TXm l G (rmD 4) 2 cJ0_charAt_5068e RJ0) (RXm l G (rmD 4) 2 cJ0_charAt_5068e RJ0 (some .char)) pc (P_J0_charAt_5068e pc) := fun pc => ok_nd (ok_nd (ok_nd (ok_lf (ok_ALdn d_J0_charAt_5068e_0 rfl rfl)) (ok_nd (ok_lf (ok_CaT su_J0_isLatin1_aae02 d_J0_charAt_5068e_1 q548 q549 q550 q10 q551 ⟨by decide +kernel, by decide +kernel, by decide +kernel⟩ ⟨by decide, by decide⟩ rfl)) (ok_lf (ok_IfEq d_J0_charAt_5068e_4 (by decide) rfl)))) (ok_nd (ok_lf (ok_ALdn d_J0_charAt_5068e_7 rfl rfl)) (ok_nd (ok_lf (ok_StrV d_J0_charAt_5068e_8 q1179 rfl)) (ok_lf (ok_ILdn d_J0_charAt_5068e_11 rfl rfl))))) (ok_nd (ok_nd (ok_lf (ok_CaS su_J1_charAt_3b067 d_J0_charAt_5068e_12 q552 q553 q11 q554 ⟨by decide +kernel, by decide +kernel, by decide +kernel⟩ ⟨by decide, by decide⟩ rfl)) (ok_nd (ok_lf (ok_CRet d_J0_charAt_5068e_15)) (ok_lf (ok_ALdn d_J0_charAt_5068e_16 rfl rfl)))) (ok_nd (ok_nd (ok_lf (ok_StrV d_J0_charAt_5068e_17 q1179 rfl)) (ok_lf (ok_ILdn d_J0_charAt_5068e_20 rfl rfl))) (ok_nd (ok_lf (ok_fail)) (ok_lf (ok_CRet d_J0_charAt_5068e_24)))))
noncomputable def S_J0_charAt_5068e : Sem := lockS (inl P_J0_charAt_5068e 15 2) 0
theorem su_J0_charAt_5068e {l : Launch} {G : Gm} : SemU l G yJ0_charAt_5068e (wsOf yJ0_charAt_5068e cJ0_charAt_5068e 2 (some .char)) 4 S_J0_charAt_5068e := sem_lock (sem_inl 15 (by decide +kernel) rfl ok_J0_charAt_5068e)
