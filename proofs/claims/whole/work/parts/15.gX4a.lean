theorem d_X4_isWithin_0 : decode cX4_isWithin 0 = .ok (.iload_n 0, 1) := by decide +kernel
theorem d_X4_isWithin_1 : decode cX4_isWithin 1 = .ok (.iload_n 1, 1) := by decide +kernel
theorem d_X4_isWithin_2 : decode cX4_isWithin 2 = .ok (.if_icmp .lt 12, 3) := by decide +kernel
theorem d_X4_isWithin_5 : decode cX4_isWithin 5 = .ok (.iload_n 0, 1) := by decide +kernel
theorem d_X4_isWithin_6 : decode cX4_isWithin 6 = .ok (.iload_n 2, 1) := by decide +kernel
theorem d_X4_isWithin_7 : decode cX4_isWithin 7 = .ok (.if_icmp .gt 7, 3) := by decide +kernel
theorem d_X4_isWithin_10 : decode cX4_isWithin 10 = .ok (.iconst 1, 1) := by decide +kernel
theorem d_X4_isWithin_11 : decode cX4_isWithin 11 = .ok (.goto 4, 3) := by decide +kernel
theorem d_X4_isWithin_14 : decode cX4_isWithin 14 = .ok (.iconst 0, 1) := by decide +kernel
theorem d_X4_isWithin_15 : decode cX4_isWithin 15 = .ok (.ireturn, 1) := by decide +kernel
noncomputable def P_X4_isWithin : Nat → Op := fun pc => nd 7 pc (nd 2 pc (nd 1 pc (lf 0 pc (oILd 0 1)) (lf 1 pc (oILd 1 2))) (nd 5 pc (lf 2 pc (oCpLt 14 5)) (nd 6 pc (lf 5 pc (oILd 0 6)) (lf 6 pc (oILd 2 7))))) (nd 11 pc (nd 10 pc (lf 7 pc (oCpGt 14 10)) (lf 10 pc (oCst 1 11))) (nd 14 pc (lf 11 pc (oGo 15)) (nd 15 pc (lf 14 pc (oCst 0 15)) (lf 15 pc (oZRet)))))
theorem ok_X4_isWithin {l : Launch} {G : Gm} : ∀ pc, OkU (TXm l G (rmD 1) 3 cX4_isWithin RX4) (RXm l G (rmD 1) 3 cX4_isWithin RX4 (some .boolean)) pc (P_X4_isWithin pc) := fun pc => ok_nd (ok_nd (ok_nd (ok_lf (ok_ILdn d_X4_isWithin_0 rfl rfl)) (ok_lf (ok_ILdn d_X4_isWithin_1 rfl rfl))) (ok_nd (ok_lf (ok_CpLt d_X4_isWithin_2 (by decide) rfl)) (ok_nd (ok_lf (ok_ILdn d_X4_isWithin_5 rfl rfl)) (ok_lf (ok_ILdn d_X4_isWithin_6 rfl rfl))))) (ok_nd (ok_nd (ok_lf (ok_CpGt d_X4_isWithin_7 (by decide) rfl)) (ok_lf (ok_ICst d_X4_isWithin_10 (by decide) rfl))) (ok_nd (ok_lf (ok_Go d_X4_isWithin_11 (by decide))) (ok_nd (ok_lf (ok_ICst d_X4_isWithin_14 (by decide) rfl)) (ok_lf (ok_ZRet d_X4_isWithin_15)))))
noncomputable def S_X4_isWithin : Sem := inl P_X4_isWithin 12 3
theorem su_X4_isWithin {l : Launch} {G : Gm} : SemU l G yX4_isWithin (wsOf yX4_isWithin cX4_isWithin 3 (some .boolean)) 1 S_X4_isWithin := sem_inl 12 (by decide +kernel) rfl ok_X4_isWithin
theorem d_X4_tell_0 : decode cX4_tell 0 = .ok (.ldc 55, 2) := by decide +kernel
theorem d_X4_tell_2 : decode cX4_tell 2 = .ok (.iload_n 1, 1) := by decide +kernel
theorem d_X4_tell_3 : decode cX4_tell 3 = .ok (.isub, 1) := by decide +kernel
theorem d_X4_tell_4 : decode cX4_tell 4 = .ok (.istore_n 2, 1) := by decide +kernel
theorem d_X4_tell_5 : decode cX4_tell 5 = .ok (.iload_n 2, 1) := by decide +kernel
theorem d_X4_tell_6 : decode cX4_tell 6 = .ok (.iconst 0, 1) := by decide +kernel
theorem d_X4_tell_7 : decode cX4_tell 7 = .ok (.bipush 6, 2) := by decide +kernel
theorem d_X4_tell_9 : decode cX4_tell 9 = .ok (.invokestatic 44, 3) := by decide +kernel
theorem d_X4_tell_12 : decode cX4_tell 12 = .ok (.ifCond .eq 13, 3) := by decide +kernel
theorem d_X4_tell_15 : decode cX4_tell 15 = .ok (.aload_n 0, 1) := by decide +kernel
theorem d_X4_tell_16 : decode cX4_tell 16 = .ok (.getfield 39, 3) := by decide +kernel
theorem d_X4_tell_19 : decode cX4_tell 19 = .ok (.iload_n 2, 1) := by decide +kernel
theorem d_X4_tell_20 : decode cX4_tell 20 = .ok (.dup2, 1) := by decide +kernel
theorem d_X4_tell_21 : decode cX4_tell 21 = .ok (.iaload, 1) := by decide +kernel
theorem d_X4_tell_22 : decode cX4_tell 22 = .ok (.iconst 1, 1) := by decide +kernel
theorem d_X4_tell_23 : decode cX4_tell 23 = .ok (.iadd, 1) := by decide +kernel
theorem d_X4_tell_24 : decode cX4_tell 24 = .ok (.iastore, 1) := by decide +kernel
theorem d_X4_tell_25 : decode cX4_tell 25 = .ok (.iload_n 1, 1) := by decide +kernel
theorem d_X4_tell_26 : decode cX4_tell 26 = .ok (.ireturn, 1) := by decide +kernel
noncomputable def P_X4_tell : Nat → Op := fun pc => nd 15 pc (nd 5 pc (nd 3 pc (nd 2 pc (lf 0 pc (oCst (-1000001) 2)) (lf 2 pc (oILd 1 3))) (nd 4 pc (lf 3 pc (oBin (fun x y => x - y) 4)) (lf 4 pc (oISt 2 5)))) (nd 7 pc (nd 6 pc (lf 5 pc (oILd 2 6)) (lf 6 pc (oCst 0 7))) (nd 9 pc (lf 7 pc (oCst 6 9)) (nd 12 pc (lf 9 pc (oCaS 3 S_X4_isWithin 12)) (lf 12 pc (oIfEq 25 15)))))) (nd 22 pc (nd 19 pc (nd 16 pc (lf 15 pc (oALd 0 16)) (lf 16 pc (oGetR 4 6 19))) (nd 20 pc (lf 19 pc (oILd 2 20)) (nd 21 pc (lf 20 pc (oDup2 21)) (lf 21 pc (oIAL 22))))) (nd 24 pc (nd 23 pc (lf 22 pc (oCst 1 23)) (lf 23 pc (oBin (fun x y => x + y) 24))) (nd 25 pc (lf 24 pc (oIAS 25)) (nd 26 pc (lf 25 pc (oILd 1 26)) (lf 26 pc (oIRet))))))
theorem ok_X4_tell {l : Launch} {G : Gm} : ∀ pc, OkU (TXm l G (rmD 2) 3 cX4_tell RX4) (RXm l G (rmD 2) 3 cX4_tell RX4 (some .int)) pc (P_X4_tell pc) := fun pc => ok_nd (ok_nd (ok_nd (ok_nd (ok_lf (ok_Ldc d_X4_tell_0 q183 rfl)) (ok_lf (ok_ILdn d_X4_tell_2 rfl rfl))) (ok_nd (ok_lf (ok_isub d_X4_tell_3 rfl)) (ok_lf (ok_IStn d_X4_tell_4 rfl rfl)))) (ok_nd (ok_nd (ok_lf (ok_ILdn d_X4_tell_5 rfl rfl)) (ok_lf (ok_ICst d_X4_tell_6 (by decide) rfl))) (ok_nd (ok_lf (ok_BCst d_X4_tell_7 (by decide) rfl)) (ok_nd (ok_lf (ok_CaS su_X4_isWithin d_X4_tell_9 q180 q181 q1 q182 ⟨by decide +kernel, by decide +kernel, by decide +kernel⟩ ⟨by decide, by decide⟩ rfl)) (ok_lf (ok_IfEq d_X4_tell_12 (by decide) rfl)))))) (ok_nd (ok_nd (ok_nd (ok_lf (ok_ALdn d_X4_tell_15 rfl rfl)) (ok_lf (ok_GetR (by decide) (by decide) rfl d_X4_tell_16 q160 rfl))) (ok_nd (ok_lf (ok_ILdn d_X4_tell_19 rfl rfl)) (ok_nd (ok_lf (ok_Dup2 d_X4_tell_20 rfl)) (ok_lf (ok_IAL d_X4_tell_21 rfl))))) (ok_nd (ok_nd (ok_lf (ok_ICst d_X4_tell_22 (by decide) rfl)) (ok_lf (ok_iadd d_X4_tell_23 rfl))) (ok_nd (ok_lf (ok_IAS d_X4_tell_24 rfl)) (ok_nd (ok_lf (ok_ILdn d_X4_tell_25 rfl rfl)) (ok_lf (ok_IRet d_X4_tell_26))))))
noncomputable def S_X4_tell : Sem := lockS (inl P_X4_tell 21 3) 0
theorem su_X4_tell {l : Launch} {G : Gm} : SemU l G yX4_tell (wsOf yX4_tell cX4_tell 3 (some .int)) 2 S_X4_tell := sem_lock (sem_inl 21 (by decide +kernel) rfl ok_X4_tell)
theorem d_X4_set_0 : decode cX4_set 0 = .ok (.iload_n 1, 1) := by decide +kernel
theorem d_X4_set_1 : decode cX4_set 1 = .ok (.ifCond .ne 31, 3) := by decide +kernel
theorem d_X4_set_4 : decode cX4_set 4 = .ok (.iload_n 2, 1) := by decide +kernel
theorem d_X4_set_5 : decode cX4_set 5 = .ok (.iconst 1, 1) := by decide +kernel
theorem d_X4_set_6 : decode cX4_set 6 = .ok (.bipush 60, 2) := by decide +kernel
theorem d_X4_set_8 : decode cX4_set 8 = .ok (.invokestatic 44, 3) := by decide +kernel
theorem d_X4_set_11 : decode cX4_set 11 = .ok (.ifCond .eq 21, 3) := by decide +kernel
theorem d_X4_set_14 : decode cX4_set 14 = .ok (.aload_n 0, 1) := by decide +kernel
theorem d_X4_set_15 : decode cX4_set 15 = .ok (.getfield 12, 3) := by decide +kernel
theorem d_X4_set_18 : decode cX4_set 18 = .ok (.getfield 48, 3) := by decide +kernel
theorem d_X4_set_21 : decode cX4_set 21 = .ok (.istore_n 3, 1) := by decide +kernel
theorem d_X4_set_22 : decode cX4_set 22 = .ok (.aload_n 0, 1) := by decide +kernel
theorem d_X4_set_23 : decode cX4_set 23 = .ok (.getfield 12, 3) := by decide +kernel
theorem d_X4_set_26 : decode cX4_set 26 = .ok (.iload_n 2, 1) := by decide +kernel
theorem d_X4_set_27 : decode cX4_set 27 = .ok (.putfield 48, 3) := by decide +kernel
theorem d_X4_set_30 : decode cX4_set 30 = .ok (.iload_n 3, 1) := by decide +kernel
theorem d_X4_set_31 : decode cX4_set 31 = .ok (.ireturn, 1) := by decide +kernel
theorem d_X4_set_32 : decode cX4_set 32 = .ok (.iload_n 1, 1) := by decide +kernel
theorem d_X4_set_33 : decode cX4_set 33 = .ok (.iconst 1, 1) := by decide +kernel
theorem d_X4_set_34 : decode cX4_set 34 = .ok (.if_icmp .ne 31, 3) := by decide +kernel
theorem d_X4_set_37 : decode cX4_set 37 = .ok (.iload_n 2, 1) := by decide +kernel
theorem d_X4_set_38 : decode cX4_set 38 = .ok (.iconst 0, 1) := by decide +kernel
theorem d_X4_set_39 : decode cX4_set 39 = .ok (.bipush 9, 2) := by decide +kernel
theorem d_X4_set_41 : decode cX4_set 41 = .ok (.invokestatic 44, 3) := by decide +kernel
theorem d_X4_set_44 : decode cX4_set 44 = .ok (.ifCond .eq 21, 3) := by decide +kernel
theorem d_X4_set_47 : decode cX4_set 47 = .ok (.aload_n 0, 1) := by decide +kernel
theorem d_X4_set_48 : decode cX4_set 48 = .ok (.getfield 12, 3) := by decide +kernel
theorem d_X4_set_51 : decode cX4_set 51 = .ok (.getfield 52, 3) := by decide +kernel
theorem d_X4_set_54 : decode cX4_set 54 = .ok (.istore_n 3, 1) := by decide +kernel
theorem d_X4_set_55 : decode cX4_set 55 = .ok (.aload_n 0, 1) := by decide +kernel
theorem d_X4_set_56 : decode cX4_set 56 = .ok (.getfield 12, 3) := by decide +kernel
theorem d_X4_set_59 : decode cX4_set 59 = .ok (.iload_n 2, 1) := by decide +kernel
theorem d_X4_set_60 : decode cX4_set 60 = .ok (.putfield 52, 3) := by decide +kernel
theorem d_X4_set_63 : decode cX4_set 63 = .ok (.iload_n 3, 1) := by decide +kernel
theorem d_X4_set_64 : decode cX4_set 64 = .ok (.ireturn, 1) := by decide +kernel
theorem d_X4_set_65 : decode cX4_set 65 = .ok (.aload_n 0, 1) := by decide +kernel
theorem d_X4_set_66 : decode cX4_set 66 = .ok (.ldc 55, 2) := by decide +kernel
theorem d_X4_set_68 : decode cX4_set 68 = .ok (.invokevirtual 56, 3) := by decide +kernel
theorem d_X4_set_71 : decode cX4_set 71 = .ok (.ireturn, 1) := by decide +kernel
noncomputable def P_X4_set : Nat → Op := fun pc => nd 34 pc (nd 18 pc (nd 6 pc (nd 4 pc (nd 1 pc (lf 0 pc (oILd 1 1)) (lf 1 pc (oIfEq 4 32))) (nd 5 pc (lf 4 pc (oILd 2 5)) (lf 5 pc (oCst 1 6)))) (nd 11 pc (nd 8 pc (lf 6 pc (oCst 60 8)) (lf 8 pc (oCaS 3 S_X4_isWithin 11))) (nd 14 pc (lf 11 pc (oIfEq 32 14)) (nd 15 pc (lf 14 pc (oALd 0 15)) (lf 15 pc (oGetR 4 0 18)))))) (nd 27 pc (nd 22 pc (nd 21 pc (lf 18 pc (oGetI 0 0 21)) (lf 21 pc (oISt 3 22))) (nd 23 pc (lf 22 pc (oALd 0 23)) (nd 26 pc (lf 23 pc (oGetR 4 0 26)) (lf 26 pc (oILd 2 27))))) (nd 31 pc (nd 30 pc (lf 27 pc (oPutI 0 0 30)) (lf 30 pc (oILd 3 31))) (nd 32 pc (lf 31 pc (oIRet)) (nd 33 pc (lf 32 pc (oILd 1 33)) (lf 33 pc (oCst 1 34))))))) (nd 55 pc (nd 44 pc (nd 38 pc (nd 37 pc (lf 34 pc (oCpEq 37 65)) (lf 37 pc (oILd 2 38))) (nd 39 pc (lf 38 pc (oCst 0 39)) (nd 41 pc (lf 39 pc (oCst 9 41)) (lf 41 pc (oCaS 3 S_X4_isWithin 44))))) (nd 48 pc (nd 47 pc (lf 44 pc (oIfEq 65 47)) (lf 47 pc (oALd 0 48))) (nd 51 pc (lf 48 pc (oGetR 4 0 51)) (nd 54 pc (lf 51 pc (oGetI 0 1 54)) (lf 54 pc (oISt 3 55)))))) (nd 64 pc (nd 59 pc (nd 56 pc (lf 55 pc (oALd 0 56)) (lf 56 pc (oGetR 4 0 59))) (nd 60 pc (lf 59 pc (oILd 2 60)) (nd 63 pc (lf 60 pc (oPutI 0 1 63)) (lf 63 pc (oILd 3 64))))) (nd 66 pc (nd 65 pc (lf 64 pc (oIRet)) (lf 65 pc (oALd 0 66))) (nd 68 pc (lf 66 pc (oCst (-1000001) 68)) (nd 71 pc (lf 68 pc (oCaV 2 4 S_X4_tell 71)) (lf 71 pc (oIRet)))))))
theorem ok_X4_set {l : Launch} {G : Gm} : ∀ pc, OkU (TXm l G (rmD 3) 4 cX4_set RX4) (RXm l G (rmD 3) 4 cX4_set RX4 (some .int)) pc (P_X4_set pc) := fun pc => ok_nd (ok_nd (ok_nd (ok_nd (ok_nd (ok_lf (ok_ILdn d_X4_set_0 rfl rfl)) (ok_lf (ok_IfNe d_X4_set_1 (by decide) rfl))) (ok_nd (ok_lf (ok_ILdn d_X4_set_4 rfl rfl)) (ok_lf (ok_ICst d_X4_set_5 (by decide) rfl)))) (ok_nd (ok_nd (ok_lf (ok_BCst d_X4_set_6 (by decide) rfl)) (ok_lf (ok_CaS su_X4_isWithin d_X4_set_8 q180 q181 q1 q182 ⟨by decide +kernel, by decide +kernel, by decide +kernel⟩ ⟨by decide, by decide⟩ rfl))) (ok_nd (ok_lf (ok_IfEq d_X4_set_11 (by decide) rfl)) (ok_nd (ok_lf (ok_ALdn d_X4_set_14 rfl rfl)) (ok_lf (ok_GetR (by decide) (by decide) rfl d_X4_set_15 q154 rfl)))))) (ok_nd (ok_nd (ok_nd (ok_lf (ok_GetIN (by decide) (by decide) rfl d_X4_set_18 q68 rfl)) (ok_lf (ok_IStn d_X4_set_21 rfl rfl))) (ok_nd (ok_lf (ok_ALdn d_X4_set_22 rfl rfl)) (ok_nd (ok_lf (ok_GetR (by decide) (by decide) rfl d_X4_set_23 q154 rfl)) (ok_lf (ok_ILdn d_X4_set_26 rfl rfl))))) (ok_nd (ok_nd (ok_lf (ok_PutIN (by decide) (by decide) rfl rfl (by decide +kernel) d_X4_set_27 q68 rfl)) (ok_lf (ok_ILdn d_X4_set_30 rfl rfl))) (ok_nd (ok_lf (ok_IRet d_X4_set_31)) (ok_nd (ok_lf (ok_ILdn d_X4_set_32 rfl rfl)) (ok_lf (ok_ICst d_X4_set_33 (by decide) rfl))))))) (ok_nd (ok_nd (ok_nd (ok_nd (ok_lf (ok_CpNe d_X4_set_34 (by decide) rfl)) (ok_lf (ok_ILdn d_X4_set_37 rfl rfl))) (ok_nd (ok_lf (ok_ICst d_X4_set_38 (by decide) rfl)) (ok_nd (ok_lf (ok_BCst d_X4_set_39 (by decide) rfl)) (ok_lf (ok_CaS su_X4_isWithin d_X4_set_41 q180 q181 q1 q182 ⟨by decide +kernel, by decide +kernel, by decide +kernel⟩ ⟨by decide, by decide⟩ rfl))))) (ok_nd (ok_nd (ok_lf (ok_IfEq d_X4_set_44 (by decide) rfl)) (ok_lf (ok_ALdn d_X4_set_47 rfl rfl))) (ok_nd (ok_lf (ok_GetR (by decide) (by decide) rfl d_X4_set_48 q154 rfl)) (ok_nd (ok_lf (ok_GetIN (by decide) (by decide) rfl d_X4_set_51 q71 rfl)) (ok_lf (ok_IStn d_X4_set_54 rfl rfl)))))) (ok_nd (ok_nd (ok_nd (ok_lf (ok_ALdn d_X4_set_55 rfl rfl)) (ok_lf (ok_GetR (by decide) (by decide) rfl d_X4_set_56 q154 rfl))) (ok_nd (ok_lf (ok_ILdn d_X4_set_59 rfl rfl)) (ok_nd (ok_lf (ok_PutIN (by decide) (by decide) rfl rfl (by decide +kernel) d_X4_set_60 q71 rfl)) (ok_lf (ok_ILdn d_X4_set_63 rfl rfl))))) (ok_nd (ok_nd (ok_lf (ok_IRet d_X4_set_64)) (ok_lf (ok_ALdn d_X4_set_65 rfl rfl))) (ok_nd (ok_lf (ok_Ldc d_X4_set_66 q183 rfl)) (ok_nd (ok_lf (ok_CaV su_X4_tell (by decide) rfl d_X4_set_68 q184 q186 z0 q1 q187 ⟨by decide +kernel, by decide +kernel, by decide +kernel⟩ ⟨by decide, by decide⟩ rfl)) (ok_lf (ok_IRet d_X4_set_71)))))))
noncomputable def S_X4_set : Sem := lockS (inl P_X4_set 41 4) 0
theorem su_X4_set {l : Launch} {G : Gm} : SemU l G yX4_set (wsOf yX4_set cX4_set 4 (some .int)) 3 S_X4_set := sem_lock (sem_inl 41 (by decide +kernel) rfl ok_X4_set)
theorem d_X4_court_0 : decode cX4_court 0 = .ok (.iload_n 1, 1) := by decide +kernel
theorem d_X4_court_1 : decode cX4_court 1 = .ok (.tableswitch 51 0 2 #[27, 35, 43], 27) := by decide +kernel
theorem d_X4_court_28 : decode cX4_court 28 = .ok (.aload_n 0, 1) := by decide +kernel
theorem d_X4_court_29 : decode cX4_court 29 = .ok (.getfield 12, 3) := by decide +kernel
theorem d_X4_court_32 : decode cX4_court 32 = .ok (.getfield 48, 3) := by decide +kernel
theorem d_X4_court_35 : decode cX4_court 35 = .ok (.ireturn, 1) := by decide +kernel
theorem d_X4_court_36 : decode cX4_court 36 = .ok (.aload_n 0, 1) := by decide +kernel
theorem d_X4_court_37 : decode cX4_court 37 = .ok (.getfield 12, 3) := by decide +kernel
theorem d_X4_court_40 : decode cX4_court 40 = .ok (.getfield 52, 3) := by decide +kernel
theorem d_X4_court_43 : decode cX4_court 43 = .ok (.ireturn, 1) := by decide +kernel
theorem d_X4_court_44 : decode cX4_court 44 = .ok (.aload_n 0, 1) := by decide +kernel
theorem d_X4_court_45 : decode cX4_court 45 = .ok (.getfield 12, 3) := by decide +kernel
theorem d_X4_court_48 : decode cX4_court 48 = .ok (.getfield 60, 3) := by decide +kernel
theorem d_X4_court_51 : decode cX4_court 51 = .ok (.ireturn, 1) := by decide +kernel
theorem d_X4_court_52 : decode cX4_court 52 = .ok (.aload_n 0, 1) := by decide +kernel
theorem d_X4_court_53 : decode cX4_court 53 = .ok (.ldc 55, 2) := by decide +kernel
theorem d_X4_court_55 : decode cX4_court 55 = .ok (.invokevirtual 56, 3) := by decide +kernel
theorem d_X4_court_58 : decode cX4_court 58 = .ok (.ireturn, 1) := by decide +kernel
noncomputable def P_X4_court : Nat → Op := fun pc => nd 43 pc (nd 32 pc (nd 28 pc (nd 1 pc (lf 0 pc (oILd 1 1)) (lf 1 pc (oSw [(0, 28), (1, 36), (2, 44)] 52))) (nd 29 pc (lf 28 pc (oALd 0 29)) (lf 29 pc (oGetR 4 0 32)))) (nd 36 pc (nd 35 pc (lf 32 pc (oGetI 0 0 35)) (lf 35 pc (oIRet))) (nd 37 pc (lf 36 pc (oALd 0 37)) (nd 40 pc (lf 37 pc (oGetR 4 0 40)) (lf 40 pc (oGetI 0 1 43)))))) (nd 51 pc (nd 45 pc (nd 44 pc (lf 43 pc (oIRet)) (lf 44 pc (oALd 0 45))) (nd 48 pc (lf 45 pc (oGetR 4 0 48)) (lf 48 pc (oGetI 0 2 51)))) (nd 53 pc (nd 52 pc (lf 51 pc (oIRet)) (lf 52 pc (oALd 0 53))) (nd 55 pc (lf 53 pc (oCst (-1000001) 55)) (nd 58 pc (lf 55 pc (oCaV 2 4 S_X4_tell 58)) (lf 58 pc (oIRet))))))
theorem ok_X4_court {l : Launch} {G : Gm} : ∀ pc, OkU (TXm l G (rmD 3) 2 cX4_court RX4) (RXm l G (rmD 3) 2 cX4_court RX4 (some .int)) pc (P_X4_court pc) := fun pc => ok_nd (ok_nd (ok_nd (ok_nd (ok_lf (ok_ILdn d_X4_court_0 rfl rfl)) (ok_lf (ok_Tab d_X4_court_1 (by decide) (by decide) (by decide) (by decide)))) (ok_nd (ok_lf (ok_ALdn d_X4_court_28 rfl rfl)) (ok_lf (ok_GetR (by decide) (by decide) rfl d_X4_court_29 q154 rfl)))) (ok_nd (ok_nd (ok_lf (ok_GetIN (by decide) (by decide) rfl d_X4_court_32 q68 rfl)) (ok_lf (ok_IRet d_X4_court_35))) (ok_nd (ok_lf (ok_ALdn d_X4_court_36 rfl rfl)) (ok_nd (ok_lf (ok_GetR (by decide) (by decide) rfl d_X4_court_37 q154 rfl)) (ok_lf (ok_GetIN (by decide) (by decide) rfl d_X4_court_40 q71 rfl)))))) (ok_nd (ok_nd (ok_nd (ok_lf (ok_IRet d_X4_court_43)) (ok_lf (ok_ALdn d_X4_court_44 rfl rfl))) (ok_nd (ok_lf (ok_GetR (by decide) (by decide) rfl d_X4_court_45 q154 rfl)) (ok_lf (ok_GetIN (by decide) (by decide) rfl d_X4_court_48 q74 rfl)))) (ok_nd (ok_nd (ok_lf (ok_IRet d_X4_court_51)) (ok_lf (ok_ALdn d_X4_court_52 rfl rfl))) (ok_nd (ok_lf (ok_Ldc d_X4_court_53 q183 rfl)) (ok_nd (ok_lf (ok_CaV su_X4_tell (by decide) rfl d_X4_court_55 q184 q186 z0 q1 q187 ⟨by decide +kernel, by decide +kernel, by decide +kernel⟩ ⟨by decide, by decide⟩ rfl)) (ok_lf (ok_IRet d_X4_court_58))))))
noncomputable def S_X4_court : Sem := lockS (inl P_X4_court 20 2) 0
theorem su_X4_court {l : Launch} {G : Gm} : SemU l G yX4_court (wsOf yX4_court cX4_court 2 (some .int)) 3 S_X4_court := sem_lock (sem_inl 20 (by decide +kernel) rfl ok_X4_court)
theorem d_X4_isPlace_0 : decode cX4_isPlace 0 = .ok (.iload_n 0, 1) := by decide +kernel
theorem d_X4_isPlace_1 : decode cX4_isPlace 1 = .ok (.iconst 0, 1) := by decide +kernel
theorem d_X4_isPlace_2 : decode cX4_isPlace 2 = .ok (.iconst 5, 1) := by decide +kernel
theorem d_X4_isPlace_3 : decode cX4_isPlace 3 = .ok (.invokestatic 44, 3) := by decide +kernel
theorem d_X4_isPlace_6 : decode cX4_isPlace 6 = .ok (.ireturn, 1) := by decide +kernel
noncomputable def P_X4_isPlace : Nat → Op := fun pc => nd 2 pc (nd 1 pc (lf 0 pc (oILd 0 1)) (lf 1 pc (oCst 0 2))) (nd 3 pc (lf 2 pc (oCst 5 3)) (nd 6 pc (lf 3 pc (oCaS 3 S_X4_isWithin 6)) (lf 6 pc (oZRet))))
theorem ok_X4_isPlace {l : Launch} {G : Gm} : ∀ pc, OkU (TXm l G (rmD 2) 1 cX4_isPlace RX4) (RXm l G (rmD 2) 1 cX4_isPlace RX4 (some .boolean)) pc (P_X4_isPlace pc) := fun pc => ok_nd (ok_nd (ok_lf (ok_ILdn d_X4_isPlace_0 rfl rfl)) (ok_lf (ok_ICst d_X4_isPlace_1 (by decide) rfl))) (ok_nd (ok_lf (ok_ICst d_X4_isPlace_2 (by decide) rfl)) (ok_nd (ok_lf (ok_CaS su_X4_isWithin d_X4_isPlace_3 q180 q181 q1 q182 ⟨by decide +kernel, by decide +kernel, by decide +kernel⟩ ⟨by decide, by decide⟩ rfl)) (ok_lf (ok_ZRet d_X4_isPlace_6))))
noncomputable def S_X4_isPlace : Sem := inl P_X4_isPlace 7 1
theorem su_X4_isPlace {l : Launch} {G : Gm} : SemU l G yX4_isPlace (wsOf yX4_isPlace cX4_isPlace 1 (some .boolean)) 2 S_X4_isPlace := sem_inl 7 (by decide +kernel) rfl ok_X4_isPlace
theorem d_X4_isParty_0 : decode cX4_isParty 0 = .ok (.iload_n 0, 1) := by decide +kernel
theorem d_X4_isParty_1 : decode cX4_isParty 1 = .ok (.iconst 0, 1) := by decide +kernel
theorem d_X4_isParty_2 : decode cX4_isParty 2 = .ok (.bipush 7, 2) := by decide +kernel
theorem d_X4_isParty_4 : decode cX4_isParty 4 = .ok (.invokestatic 44, 3) := by decide +kernel
theorem d_X4_isParty_7 : decode cX4_isParty 7 = .ok (.ireturn, 1) := by decide +kernel
noncomputable def P_X4_isParty : Nat → Op := fun pc => nd 2 pc (nd 1 pc (lf 0 pc (oILd 0 1)) (lf 1 pc (oCst 0 2))) (nd 4 pc (lf 2 pc (oCst 7 4)) (nd 7 pc (lf 4 pc (oCaS 3 S_X4_isWithin 7)) (lf 7 pc (oZRet))))
theorem ok_X4_isParty {l : Launch} {G : Gm} : ∀ pc, OkU (TXm l G (rmD 2) 1 cX4_isParty RX4) (RXm l G (rmD 2) 1 cX4_isParty RX4 (some .boolean)) pc (P_X4_isParty pc) := fun pc => ok_nd (ok_nd (ok_lf (ok_ILdn d_X4_isParty_0 rfl rfl)) (ok_lf (ok_ICst d_X4_isParty_1 (by decide) rfl))) (ok_nd (ok_lf (ok_BCst d_X4_isParty_2 (by decide) rfl)) (ok_nd (ok_lf (ok_CaS su_X4_isWithin d_X4_isParty_4 q180 q181 q1 q182 ⟨by decide +kernel, by decide +kernel, by decide +kernel⟩ ⟨by decide, by decide⟩ rfl)) (ok_lf (ok_ZRet d_X4_isParty_7))))
noncomputable def S_X4_isParty : Sem := inl P_X4_isParty 7 1
theorem su_X4_isParty {l : Launch} {G : Gm} : SemU l G yX4_isParty (wsOf yX4_isParty cX4_isParty 1 (some .boolean)) 2 S_X4_isParty := sem_inl 7 (by decide +kernel) rfl ok_X4_isParty
theorem d_X4_dispute_0 : decode cX4_dispute 0 = .ok (.iload_n 1, 1) := by decide +kernel
theorem d_X4_dispute_1 : decode cX4_dispute 1 = .ok (.invokestatic 63, 3) := by decide +kernel
theorem d_X4_dispute_4 : decode cX4_dispute 4 = .ok (.ifCond .eq 17, 3) := by decide +kernel
theorem d_X4_dispute_7 : decode cX4_dispute 7 = .ok (.iload_n 2, 1) := by decide +kernel
theorem d_X4_dispute_8 : decode cX4_dispute 8 = .ok (.invokestatic 67, 3) := by decide +kernel
theorem d_X4_dispute_11 : decode cX4_dispute 11 = .ok (.ifCond .eq 10, 3) := by decide +kernel
theorem d_X4_dispute_14 : decode cX4_dispute 14 = .ok (.iload_n 3, 1) := by decide +kernel
theorem d_X4_dispute_15 : decode cX4_dispute 15 = .ok (.invokestatic 67, 3) := by decide +kernel
theorem d_X4_dispute_18 : decode cX4_dispute 18 = .ok (.ifCond .ne 10, 3) := by decide +kernel
theorem d_X4_dispute_21 : decode cX4_dispute 21 = .ok (.aload_n 0, 1) := by decide +kernel
theorem d_X4_dispute_22 : decode cX4_dispute 22 = .ok (.ldc 55, 2) := by decide +kernel
theorem d_X4_dispute_24 : decode cX4_dispute 24 = .ok (.invokevirtual 56, 3) := by decide +kernel
theorem d_X4_dispute_27 : decode cX4_dispute 27 = .ok (.ireturn, 1) := by decide +kernel
theorem d_X4_dispute_28 : decode cX4_dispute 28 = .ok (.aload_n 0, 1) := by decide +kernel
theorem d_X4_dispute_29 : decode cX4_dispute 29 = .ok (.getfield 12, 3) := by decide +kernel
theorem d_X4_dispute_32 : decode cX4_dispute 32 = .ok (.getfield 70, 3) := by decide +kernel
theorem d_X4_dispute_35 : decode cX4_dispute 35 = .ok (.iload_n 1, 1) := by decide +kernel
theorem d_X4_dispute_36 : decode cX4_dispute 36 = .ok (.iaload, 1) := by decide +kernel
theorem d_X4_dispute_37 : decode cX4_dispute 37 = .ok (.istore 4, 2) := by decide +kernel
theorem d_X4_dispute_39 : decode cX4_dispute 39 = .ok (.aload_n 0, 1) := by decide +kernel
theorem d_X4_dispute_40 : decode cX4_dispute 40 = .ok (.getfield 12, 3) := by decide +kernel
theorem d_X4_dispute_43 : decode cX4_dispute 43 = .ok (.getfield 70, 3) := by decide +kernel
theorem d_X4_dispute_46 : decode cX4_dispute 46 = .ok (.iload_n 1, 1) := by decide +kernel
theorem d_X4_dispute_47 : decode cX4_dispute 47 = .ok (.bipush 10, 2) := by decide +kernel
theorem d_X4_dispute_49 : decode cX4_dispute 49 = .ok (.iload_n 2, 1) := by decide +kernel
theorem d_X4_dispute_50 : decode cX4_dispute 50 = .ok (.imul, 1) := by decide +kernel
theorem d_X4_dispute_51 : decode cX4_dispute 51 = .ok (.iload_n 3, 1) := by decide +kernel
theorem d_X4_dispute_52 : decode cX4_dispute 52 = .ok (.iadd, 1) := by decide +kernel
theorem d_X4_dispute_53 : decode cX4_dispute 53 = .ok (.iastore, 1) := by decide +kernel
theorem d_X4_dispute_54 : decode cX4_dispute 54 = .ok (.iload 4, 2) := by decide +kernel
theorem d_X4_dispute_56 : decode cX4_dispute 56 = .ok (.ireturn, 1) := by decide +kernel
noncomputable def P_X4_dispute : Nat → Op := fun pc => nd 32 pc (nd 15 pc (nd 7 pc (nd 1 pc (lf 0 pc (oILd 1 1)) (nd 4 pc (lf 1 pc (oCaS 1 S_X4_isPlace 4)) (lf 4 pc (oIfEq 21 7)))) (nd 11 pc (nd 8 pc (lf 7 pc (oILd 2 8)) (lf 8 pc (oCaS 1 S_X4_isParty 11))) (nd 14 pc (lf 11 pc (oIfEq 21 14)) (lf 14 pc (oILd 3 15))))) (nd 24 pc (nd 21 pc (nd 18 pc (lf 15 pc (oCaS 1 S_X4_isParty 18)) (lf 18 pc (oIfEq 21 28))) (nd 22 pc (lf 21 pc (oALd 0 22)) (lf 22 pc (oCst (-1000001) 24)))) (nd 28 pc (nd 27 pc (lf 24 pc (oCaV 2 4 S_X4_tell 27)) (lf 27 pc (oIRet))) (nd 29 pc (lf 28 pc (oALd 0 29)) (lf 29 pc (oGetR 4 0 32)))))) (nd 47 pc (nd 39 pc (nd 36 pc (nd 35 pc (lf 32 pc (oGetR 0 5 35)) (lf 35 pc (oILd 1 36))) (nd 37 pc (lf 36 pc (oIAL 37)) (lf 37 pc (oISt 4 39)))) (nd 43 pc (nd 40 pc (lf 39 pc (oALd 0 40)) (lf 40 pc (oGetR 4 0 43))) (nd 46 pc (lf 43 pc (oGetR 0 5 46)) (lf 46 pc (oILd 1 47))))) (nd 52 pc (nd 50 pc (nd 49 pc (lf 47 pc (oCst 10 49)) (lf 49 pc (oILd 2 50))) (nd 51 pc (lf 50 pc (oBin (fun x y => x * y) 51)) (lf 51 pc (oILd 3 52)))) (nd 54 pc (nd 53 pc (lf 52 pc (oBin (fun x y => x + y) 53)) (lf 53 pc (oIAS 54))) (nd 56 pc (lf 54 pc (oILd 4 56)) (lf 56 pc (oIRet))))))
theorem ok_X4_dispute {l : Launch} {G : Gm} : ∀ pc, OkU (TXm l G (rmD 3) 5 cX4_dispute RX4) (RXm l G (rmD 3) 5 cX4_dispute RX4 (some .int)) pc (P_X4_dispute pc) := fun pc => ok_nd (ok_nd (ok_nd (ok_nd (ok_lf (ok_ILdn d_X4_dispute_0 rfl rfl)) (ok_nd (ok_lf (ok_CaS su_X4_isPlace d_X4_dispute_1 q196 q197 q1 q198 ⟨by decide +kernel, by decide +kernel, by decide +kernel⟩ ⟨by decide, by decide⟩ rfl)) (ok_lf (ok_IfEq d_X4_dispute_4 (by decide) rfl)))) (ok_nd (ok_nd (ok_lf (ok_ILdn d_X4_dispute_7 rfl rfl)) (ok_lf (ok_CaS su_X4_isParty d_X4_dispute_8 q199 q200 q1 q201 ⟨by decide +kernel, by decide +kernel, by decide +kernel⟩ ⟨by decide, by decide⟩ rfl))) (ok_nd (ok_lf (ok_IfEq d_X4_dispute_11 (by decide) rfl)) (ok_lf (ok_ILdn d_X4_dispute_14 rfl rfl))))) (ok_nd (ok_nd (ok_nd (ok_lf (ok_CaS su_X4_isParty d_X4_dispute_15 q199 q200 q1 q201 ⟨by decide +kernel, by decide +kernel, by decide +kernel⟩ ⟨by decide, by decide⟩ rfl)) (ok_lf (ok_IfNe d_X4_dispute_18 (by decide) rfl))) (ok_nd (ok_lf (ok_ALdn d_X4_dispute_21 rfl rfl)) (ok_lf (ok_Ldc d_X4_dispute_22 q183 rfl)))) (ok_nd (ok_nd (ok_lf (ok_CaV su_X4_tell (by decide) rfl d_X4_dispute_24 q184 q186 z0 q1 q187 ⟨by decide +kernel, by decide +kernel, by decide +kernel⟩ ⟨by decide, by decide⟩ rfl)) (ok_lf (ok_IRet d_X4_dispute_27))) (ok_nd (ok_lf (ok_ALdn d_X4_dispute_28 rfl rfl)) (ok_lf (ok_GetR (by decide) (by decide) rfl d_X4_dispute_29 q154 rfl)))))) (ok_nd (ok_nd (ok_nd (ok_nd (ok_lf (ok_GetRN (by decide) (by decide) rfl d_X4_dispute_32 q80 rfl)) (ok_lf (ok_ILdn d_X4_dispute_35 rfl rfl))) (ok_nd (ok_lf (ok_IAL d_X4_dispute_36 rfl)) (ok_lf (ok_ISt d_X4_dispute_37 rfl)))) (ok_nd (ok_nd (ok_lf (ok_ALdn d_X4_dispute_39 rfl rfl)) (ok_lf (ok_GetR (by decide) (by decide) rfl d_X4_dispute_40 q154 rfl))) (ok_nd (ok_lf (ok_GetRN (by decide) (by decide) rfl d_X4_dispute_43 q80 rfl)) (ok_lf (ok_ILdn d_X4_dispute_46 rfl rfl))))) (ok_nd (ok_nd (ok_nd (ok_lf (ok_BCst d_X4_dispute_47 (by decide) rfl)) (ok_lf (ok_ILdn d_X4_dispute_49 rfl rfl))) (ok_nd (ok_lf (ok_imul d_X4_dispute_50 rfl)) (ok_lf (ok_ILdn d_X4_dispute_51 rfl rfl)))) (ok_nd (ok_nd (ok_lf (ok_iadd d_X4_dispute_52 rfl)) (ok_lf (ok_IAS d_X4_dispute_53 rfl))) (ok_nd (ok_lf (ok_ILd d_X4_dispute_54 rfl)) (ok_lf (ok_IRet d_X4_dispute_56))))))
noncomputable def S_X4_dispute : Sem := lockS (inl P_X4_dispute 33 5) 0
theorem su_X4_dispute {l : Launch} {G : Gm} : SemU l G yX4_dispute (wsOf yX4_dispute cX4_dispute 5 (some .int)) 3 S_X4_dispute := sem_lock (sem_inl 33 (by decide +kernel) rfl ok_X4_dispute)
theorem d_X4_listed_0 : decode cX4_listed 0 = .ok (.iload_n 1, 1) := by decide +kernel
theorem d_X4_listed_1 : decode cX4_listed 1 = .ok (.invokestatic 63, 3) := by decide +kernel
theorem d_X4_listed_4 : decode cX4_listed 4 = .ok (.ifCond .eq 15, 3) := by decide +kernel
theorem d_X4_listed_7 : decode cX4_listed 7 = .ok (.aload_n 0, 1) := by decide +kernel
theorem d_X4_listed_8 : decode cX4_listed 8 = .ok (.getfield 12, 3) := by decide +kernel
theorem d_X4_listed_11 : decode cX4_listed 11 = .ok (.getfield 70, 3) := by decide +kernel
theorem d_X4_listed_14 : decode cX4_listed 14 = .ok (.iload_n 1, 1) := by decide +kernel
theorem d_X4_listed_15 : decode cX4_listed 15 = .ok (.iaload, 1) := by decide +kernel
theorem d_X4_listed_16 : decode cX4_listed 16 = .ok (.goto 9, 3) := by decide +kernel
theorem d_X4_listed_19 : decode cX4_listed 19 = .ok (.aload_n 0, 1) := by decide +kernel
theorem d_X4_listed_20 : decode cX4_listed 20 = .ok (.ldc 55, 2) := by decide +kernel
theorem d_X4_listed_22 : decode cX4_listed 22 = .ok (.invokevirtual 56, 3) := by decide +kernel
theorem d_X4_listed_25 : decode cX4_listed 25 = .ok (.ireturn, 1) := by decide +kernel
noncomputable def P_X4_listed : Nat → Op := fun pc => nd 14 pc (nd 7 pc (nd 1 pc (lf 0 pc (oILd 1 1)) (nd 4 pc (lf 1 pc (oCaS 1 S_X4_isPlace 4)) (lf 4 pc (oIfEq 19 7)))) (nd 8 pc (lf 7 pc (oALd 0 8)) (nd 11 pc (lf 8 pc (oGetR 4 0 11)) (lf 11 pc (oGetR 0 5 14))))) (nd 19 pc (nd 15 pc (lf 14 pc (oILd 1 15)) (nd 16 pc (lf 15 pc (oIAL 16)) (lf 16 pc (oGo 25)))) (nd 22 pc (nd 20 pc (lf 19 pc (oALd 0 20)) (lf 20 pc (oCst (-1000001) 22))) (nd 25 pc (lf 22 pc (oCaV 2 4 S_X4_tell 25)) (lf 25 pc (oIRet)))))
theorem ok_X4_listed {l : Launch} {G : Gm} : ∀ pc, OkU (TXm l G (rmD 3) 2 cX4_listed RX4) (RXm l G (rmD 3) 2 cX4_listed RX4 (some .int)) pc (P_X4_listed pc) := fun pc => ok_nd (ok_nd (ok_nd (ok_lf (ok_ILdn d_X4_listed_0 rfl rfl)) (ok_nd (ok_lf (ok_CaS su_X4_isPlace d_X4_listed_1 q196 q197 q1 q198 ⟨by decide +kernel, by decide +kernel, by decide +kernel⟩ ⟨by decide, by decide⟩ rfl)) (ok_lf (ok_IfEq d_X4_listed_4 (by decide) rfl)))) (ok_nd (ok_lf (ok_ALdn d_X4_listed_7 rfl rfl)) (ok_nd (ok_lf (ok_GetR (by decide) (by decide) rfl d_X4_listed_8 q154 rfl)) (ok_lf (ok_GetRN (by decide) (by decide) rfl d_X4_listed_11 q80 rfl))))) (ok_nd (ok_nd (ok_lf (ok_ILdn d_X4_listed_14 rfl rfl)) (ok_nd (ok_lf (ok_IAL d_X4_listed_15 rfl)) (ok_lf (ok_Go d_X4_listed_16 (by decide))))) (ok_nd (ok_nd (ok_lf (ok_ALdn d_X4_listed_19 rfl rfl)) (ok_lf (ok_Ldc d_X4_listed_20 q183 rfl))) (ok_nd (ok_lf (ok_CaV su_X4_tell (by decide) rfl d_X4_listed_22 q184 q186 z0 q1 q187 ⟨by decide +kernel, by decide +kernel, by decide +kernel⟩ ⟨by decide, by decide⟩ rfl)) (ok_lf (ok_IRet d_X4_listed_25)))))
noncomputable def S_X4_listed : Sem := lockS (inl P_X4_listed 15 2) 0
theorem su_X4_listed {l : Launch} {G : Gm} : SemU l G yX4_listed (wsOf yX4_listed cX4_listed 2 (some .int)) 3 S_X4_listed := sem_lock (sem_inl 15 (by decide +kernel) rfl ok_X4_listed)
theorem d_X4_disputant_0 : decode cX4_disputant 0 = .ok (.iload_n 1, 1) := by decide +kernel
theorem d_X4_disputant_1 : decode cX4_disputant 1 = .ok (.iconst 0, 1) := by decide +kernel
theorem d_X4_disputant_2 : decode cX4_disputant 2 = .ok (.bipush 6, 2) := by decide +kernel
theorem d_X4_disputant_4 : decode cX4_disputant 4 = .ok (.invokestatic 44, 3) := by decide +kernel
theorem d_X4_disputant_7 : decode cX4_disputant 7 = .ok (.ifCond .eq 13, 3) := by decide +kernel
theorem d_X4_disputant_10 : decode cX4_disputant 10 = .ok (.iload_n 2, 1) := by decide +kernel
theorem d_X4_disputant_11 : decode cX4_disputant 11 = .ok (.iconst 0, 1) := by decide +kernel
theorem d_X4_disputant_12 : decode cX4_disputant 12 = .ok (.bipush 99, 2) := by decide +kernel
theorem d_X4_disputant_14 : decode cX4_disputant 14 = .ok (.invokestatic 44, 3) := by decide +kernel
theorem d_X4_disputant_17 : decode cX4_disputant 17 = .ok (.ifCond .ne 10, 3) := by decide +kernel
theorem d_X4_disputant_20 : decode cX4_disputant 20 = .ok (.aload_n 0, 1) := by decide +kernel
theorem d_X4_disputant_21 : decode cX4_disputant 21 = .ok (.ldc 55, 2) := by decide +kernel
theorem d_X4_disputant_23 : decode cX4_disputant 23 = .ok (.invokevirtual 56, 3) := by decide +kernel
theorem d_X4_disputant_26 : decode cX4_disputant 26 = .ok (.ireturn, 1) := by decide +kernel
theorem d_X4_disputant_27 : decode cX4_disputant 27 = .ok (.aload_n 0, 1) := by decide +kernel
theorem d_X4_disputant_28 : decode cX4_disputant 28 = .ok (.getfield 12, 3) := by decide +kernel
theorem d_X4_disputant_31 : decode cX4_disputant 31 = .ok (.invokevirtual 73, 3) := by decide +kernel
theorem d_X4_disputant_34 : decode cX4_disputant 34 = .ok (.ifCond .eq 10, 3) := by decide +kernel
theorem d_X4_disputant_37 : decode cX4_disputant 37 = .ok (.aload_n 0, 1) := by decide +kernel
theorem d_X4_disputant_38 : decode cX4_disputant 38 = .ok (.ldc 77, 2) := by decide +kernel
theorem d_X4_disputant_40 : decode cX4_disputant 40 = .ok (.invokevirtual 56, 3) := by decide +kernel
theorem d_X4_disputant_43 : decode cX4_disputant 43 = .ok (.ireturn, 1) := by decide +kernel
theorem d_X4_disputant_44 : decode cX4_disputant 44 = .ok (.aload_n 0, 1) := by decide +kernel
theorem d_X4_disputant_45 : decode cX4_disputant 45 = .ok (.getfield 12, 3) := by decide +kernel
theorem d_X4_disputant_48 : decode cX4_disputant 48 = .ok (.iload_n 1, 1) := by decide +kernel
theorem d_X4_disputant_49 : decode cX4_disputant 49 = .ok (.iload_n 2, 1) := by decide +kernel
theorem d_X4_disputant_50 : decode cX4_disputant 50 = .ok (.invokevirtual 78, 3) := by decide +kernel
theorem d_X4_disputant_53 : decode cX4_disputant 53 = .ok (.ireturn, 1) := by decide +kernel
noncomputable def P_X4_disputant : Nat → Op := fun pc => nd 27 pc (nd 12 pc (nd 4 pc (nd 1 pc (lf 0 pc (oILd 1 1)) (nd 2 pc (lf 1 pc (oCst 0 2)) (lf 2 pc (oCst 6 4)))) (nd 10 pc (nd 7 pc (lf 4 pc (oCaS 3 S_X4_isWithin 7)) (lf 7 pc (oIfEq 20 10))) (nd 11 pc (lf 10 pc (oILd 2 11)) (lf 11 pc (oCst 0 12))))) (nd 20 pc (nd 14 pc (lf 12 pc (oCst 99 14)) (nd 17 pc (lf 14 pc (oCaS 3 S_X4_isWithin 17)) (lf 17 pc (oIfEq 20 27)))) (nd 23 pc (nd 21 pc (lf 20 pc (oALd 0 21)) (lf 21 pc (oCst (-1000001) 23))) (nd 26 pc (lf 23 pc (oCaV 2 4 S_X4_tell 26)) (lf 26 pc (oIRet)))))) (nd 43 pc (nd 34 pc (nd 28 pc (lf 27 pc (oALd 0 28)) (nd 31 pc (lf 28 pc (oGetR 4 0 31)) (lf 31 pc (oCaV 1 0 S_X0_isFull 34)))) (nd 38 pc (nd 37 pc (lf 34 pc (oIfEq 44 37)) (lf 37 pc (oALd 0 38))) (nd 40 pc (lf 38 pc (oCst (-1000002) 40)) (lf 40 pc (oCaV 2 4 S_X4_tell 43))))) (nd 48 pc (nd 44 pc (lf 43 pc (oIRet)) (nd 45 pc (lf 44 pc (oALd 0 45)) (lf 45 pc (oGetR 4 0 48)))) (nd 50 pc (nd 49 pc (lf 48 pc (oILd 1 49)) (lf 49 pc (oILd 2 50))) (nd 53 pc (lf 50 pc (oCaV 3 0 S_X0_admit 53)) (lf 53 pc (oIRet))))))
theorem ok_X4_disputant {l : Launch} {G : Gm} : ∀ pc, OkU (TXm l G (rmD 3) 3 cX4_disputant RX4) (RXm l G (rmD 3) 3 cX4_disputant RX4 (some .int)) pc (P_X4_disputant pc) := fun pc => ok_nd (ok_nd (ok_nd (ok_nd (ok_lf (ok_ILdn d_X4_disputant_0 rfl rfl)) (ok_nd (ok_lf (ok_ICst d_X4_disputant_1 (by decide) rfl)) (ok_lf (ok_BCst d_X4_disputant_2 (by decide) rfl)))) (ok_nd (ok_nd (ok_lf (ok_CaS su_X4_isWithin d_X4_disputant_4 q180 q181 q1 q182 ⟨by decide +kernel, by decide +kernel, by decide +kernel⟩ ⟨by decide, by decide⟩ rfl)) (ok_lf (ok_IfEq d_X4_disputant_7 (by decide) rfl))) (ok_nd (ok_lf (ok_ILdn d_X4_disputant_10 rfl rfl)) (ok_lf (ok_ICst d_X4_disputant_11 (by decide) rfl))))) (ok_nd (ok_nd (ok_lf (ok_BCst d_X4_disputant_12 (by decide) rfl)) (ok_nd (ok_lf (ok_CaS su_X4_isWithin d_X4_disputant_14 q180 q181 q1 q182 ⟨by decide +kernel, by decide +kernel, by decide +kernel⟩ ⟨by decide, by decide⟩ rfl)) (ok_lf (ok_IfNe d_X4_disputant_17 (by decide) rfl)))) (ok_nd (ok_nd (ok_lf (ok_ALdn d_X4_disputant_20 rfl rfl)) (ok_lf (ok_Ldc d_X4_disputant_21 q183 rfl))) (ok_nd (ok_lf (ok_CaV su_X4_tell (by decide) rfl d_X4_disputant_23 q184 q186 z0 q1 q187 ⟨by decide +kernel, by decide +kernel, by decide +kernel⟩ ⟨by decide, by decide⟩ rfl)) (ok_lf (ok_IRet d_X4_disputant_26)))))) (ok_nd (ok_nd (ok_nd (ok_lf (ok_ALdn d_X4_disputant_27 rfl rfl)) (ok_nd (ok_lf (ok_GetR (by decide) (by decide) rfl d_X4_disputant_28 q154 rfl)) (ok_lf (ok_CaVN su_X0_isFull (by decide) rfl d_X4_disputant_31 q210 q212 z1 q2 q213 ⟨by decide +kernel, by decide +kernel, by decide +kernel⟩ ⟨by decide, by decide⟩ rfl)))) (ok_nd (ok_nd (ok_lf (ok_IfEq d_X4_disputant_34 (by decide) rfl)) (ok_lf (ok_ALdn d_X4_disputant_37 rfl rfl))) (ok_nd (ok_lf (ok_Ldc d_X4_disputant_38 q214 rfl)) (ok_lf (ok_CaV su_X4_tell (by decide) rfl d_X4_disputant_40 q184 q186 z0 q1 q187 ⟨by decide +kernel, by decide +kernel, by decide +kernel⟩ ⟨by decide, by decide⟩ rfl))))) (ok_nd (ok_nd (ok_lf (ok_IRet d_X4_disputant_43)) (ok_nd (ok_lf (ok_ALdn d_X4_disputant_44 rfl rfl)) (ok_lf (ok_GetR (by decide) (by decide) rfl d_X4_disputant_45 q154 rfl)))) (ok_nd (ok_nd (ok_lf (ok_ILdn d_X4_disputant_48 rfl rfl)) (ok_lf (ok_ILdn d_X4_disputant_49 rfl rfl))) (ok_nd (ok_lf (ok_CaVN su_X0_admit (by decide) rfl d_X4_disputant_50 q215 q217 z2 q2 q218 ⟨by decide +kernel, by decide +kernel, by decide +kernel⟩ ⟨by decide, by decide⟩ rfl)) (ok_lf (ok_IRet d_X4_disputant_53))))))
noncomputable def S_X4_disputant : Sem := lockS (inl P_X4_disputant 30 3) 0
theorem su_X4_disputant {l : Launch} {G : Gm} : SemU l G yX4_disputant (wsOf yX4_disputant cX4_disputant 3 (some .int)) 3 S_X4_disputant := sem_lock (sem_inl 30 (by decide +kernel) rfl ok_X4_disputant)
theorem d_X4_of_0 : decode cX4_of 0 = .ok (.aload_n 0, 1) := by decide +kernel
theorem d_X4_of_1 : decode cX4_of 1 = .ok (.getfield 12, 3) := by decide +kernel
theorem d_X4_of_4 : decode cX4_of 4 = .ok (.iload_n 1, 1) := by decide +kernel
theorem d_X4_of_5 : decode cX4_of 5 = .ok (.invokevirtual 82, 3) := by decide +kernel
theorem d_X4_of_8 : decode cX4_of 8 = .ok (.ifCond .eq 13, 3) := by decide +kernel
theorem d_X4_of_11 : decode cX4_of 11 = .ok (.iload_n 2, 1) := by decide +kernel
theorem d_X4_of_12 : decode cX4_of 12 = .ok (.iconst 0, 1) := by decide +kernel
theorem d_X4_of_13 : decode cX4_of 13 = .ok (.bipush 10, 2) := by decide +kernel
theorem d_X4_of_15 : decode cX4_of 15 = .ok (.invokestatic 44, 3) := by decide +kernel
theorem d_X4_of_18 : decode cX4_of 18 = .ok (.ifCond .ne 10, 3) := by decide +kernel
theorem d_X4_of_21 : decode cX4_of 21 = .ok (.aload_n 0, 1) := by decide +kernel
theorem d_X4_of_22 : decode cX4_of 22 = .ok (.ldc 55, 2) := by decide +kernel
theorem d_X4_of_24 : decode cX4_of 24 = .ok (.invokevirtual 56, 3) := by decide +kernel
theorem d_X4_of_27 : decode cX4_of 27 = .ok (.ireturn, 1) := by decide +kernel
theorem d_X4_of_28 : decode cX4_of 28 = .ok (.aload_n 0, 1) := by decide +kernel
theorem d_X4_of_29 : decode cX4_of 29 = .ok (.getfield 12, 3) := by decide +kernel
theorem d_X4_of_32 : decode cX4_of 32 = .ok (.getfield 87, 3) := by decide +kernel
theorem d_X4_of_35 : decode cX4_of 35 = .ok (.iload_n 1, 1) := by decide +kernel
theorem d_X4_of_36 : decode cX4_of 36 = .ok (.aaload, 1) := by decide +kernel
theorem d_X4_of_37 : decode cX4_of 37 = .ok (.iload_n 2, 1) := by decide +kernel
theorem d_X4_of_38 : decode cX4_of 38 = .ok (.aload_n 0, 1) := by decide +kernel
theorem d_X4_of_39 : decode cX4_of 39 = .ok (.getfield 12, 3) := by decide +kernel
theorem d_X4_of_42 : decode cX4_of 42 = .ok (.getfield 52, 3) := by decide +kernel
theorem d_X4_of_45 : decode cX4_of 45 = .ok (.aload_n 0, 1) := by decide +kernel
theorem d_X4_of_46 : decode cX4_of 46 = .ok (.getfield 12, 3) := by decide +kernel
theorem d_X4_of_49 : decode cX4_of 49 = .ok (.getfield 91, 3) := by decide +kernel
theorem d_X4_of_52 : decode cX4_of 52 = .ok (.invokevirtual 94, 3) := by decide +kernel
theorem d_X4_of_55 : decode cX4_of 55 = .ok (.ireturn, 1) := by decide +kernel
noncomputable def P_X4_of : Nat → Op := fun pc => nd 28 pc (nd 13 pc (nd 5 pc (nd 1 pc (lf 0 pc (oALd 0 1)) (nd 4 pc (lf 1 pc (oGetR 4 0 4)) (lf 4 pc (oILd 1 5)))) (nd 11 pc (nd 8 pc (lf 5 pc (oCaV 2 0 S_X0_has 8)) (lf 8 pc (oIfEq 21 11))) (nd 12 pc (lf 11 pc (oILd 2 12)) (lf 12 pc (oCst 0 13))))) (nd 21 pc (nd 15 pc (lf 13 pc (oCst 10 15)) (nd 18 pc (lf 15 pc (oCaS 3 S_X4_isWithin 18)) (lf 18 pc (oIfEq 21 28)))) (nd 24 pc (nd 22 pc (lf 21 pc (oALd 0 22)) (lf 22 pc (oCst (-1000001) 24))) (nd 27 pc (lf 24 pc (oCaV 2 4 S_X4_tell 27)) (lf 27 pc (oIRet)))))) (nd 39 pc (nd 35 pc (nd 29 pc (lf 28 pc (oALd 0 29)) (nd 32 pc (lf 29 pc (oGetR 4 0 32)) (lf 32 pc (oGetR 0 8 35)))) (nd 37 pc (nd 36 pc (lf 35 pc (oILd 1 36)) (lf 36 pc (oAAL 7 37))) (nd 38 pc (lf 37 pc (oILd 2 38)) (lf 38 pc (oALd 0 39))))) (nd 46 pc (nd 42 pc (lf 39 pc (oGetR 4 0 42)) (nd 45 pc (lf 42 pc (oGetI 0 1 45)) (lf 45 pc (oALd 0 46)))) (nd 52 pc (nd 49 pc (lf 46 pc (oGetR 4 0 49)) (lf 49 pc (oGetI 0 3 52))) (nd 55 pc (lf 52 pc (oCaV 4 1 S_X1_tells 55)) (lf 55 pc (oIRet))))))
theorem ok_X4_of {l : Launch} {G : Gm} : ∀ pc, OkU (TXm l G (rmD 4) 3 cX4_of RX4) (RXm l G (rmD 4) 3 cX4_of RX4 (some .int)) pc (P_X4_of pc) := fun pc => ok_nd (ok_nd (ok_nd (ok_nd (ok_lf (ok_ALdn d_X4_of_0 rfl rfl)) (ok_nd (ok_lf (ok_GetR (by decide) (by decide) rfl d_X4_of_1 q154 rfl)) (ok_lf (ok_ILdn d_X4_of_4 rfl rfl)))) (ok_nd (ok_nd (ok_lf (ok_CaVN su_X0_has (by decide) rfl d_X4_of_5 q227 q229 z4 q2 q230 ⟨by decide +kernel, by decide +kernel, by decide +kernel⟩ ⟨by decide, by decide⟩ rfl)) (ok_lf (ok_IfEq d_X4_of_8 (by decide) rfl))) (ok_nd (ok_lf (ok_ILdn d_X4_of_11 rfl rfl)) (ok_lf (ok_ICst d_X4_of_12 (by decide) rfl))))) (ok_nd (ok_nd (ok_lf (ok_BCst d_X4_of_13 (by decide) rfl)) (ok_nd (ok_lf (ok_CaS su_X4_isWithin d_X4_of_15 q180 q181 q1 q182 ⟨by decide +kernel, by decide +kernel, by decide +kernel⟩ ⟨by decide, by decide⟩ rfl)) (ok_lf (ok_IfNe d_X4_of_18 (by decide) rfl)))) (ok_nd (ok_nd (ok_lf (ok_ALdn d_X4_of_21 rfl rfl)) (ok_lf (ok_Ldc d_X4_of_22 q183 rfl))) (ok_nd (ok_lf (ok_CaV su_X4_tell (by decide) rfl d_X4_of_24 q184 q186 z0 q1 q187 ⟨by decide +kernel, by decide +kernel, by decide +kernel⟩ ⟨by decide, by decide⟩ rfl)) (ok_lf (ok_IRet d_X4_of_27)))))) (ok_nd (ok_nd (ok_nd (ok_lf (ok_ALdn d_X4_of_28 rfl rfl)) (ok_nd (ok_lf (ok_GetR (by decide) (by decide) rfl d_X4_of_29 q154 rfl)) (ok_lf (ok_GetRN (by decide) (by decide) rfl d_X4_of_32 q88 rfl)))) (ok_nd (ok_nd (ok_lf (ok_ILdn d_X4_of_35 rfl rfl)) (ok_lf (ok_AAL (by decide) (by decide) d_X4_of_36 rfl))) (ok_nd (ok_lf (ok_ILdn d_X4_of_37 rfl rfl)) (ok_lf (ok_ALdn d_X4_of_38 rfl rfl))))) (ok_nd (ok_nd (ok_lf (ok_GetR (by decide) (by decide) rfl d_X4_of_39 q154 rfl)) (ok_nd (ok_lf (ok_GetIN (by decide) (by decide) rfl d_X4_of_42 q71 rfl)) (ok_lf (ok_ALdn d_X4_of_45 rfl rfl)))) (ok_nd (ok_nd (ok_lf (ok_GetR (by decide) (by decide) rfl d_X4_of_46 q154 rfl)) (ok_lf (ok_GetIN (by decide) (by decide) rfl d_X4_of_49 q76 rfl))) (ok_nd (ok_lf (ok_CaVN su_X1_tells (by decide) rfl d_X4_of_52 q231 q233 z5 q3 q234 ⟨by decide +kernel, by decide +kernel, by decide +kernel⟩ ⟨by decide, by decide⟩ rfl)) (ok_lf (ok_IRet d_X4_of_55))))))
noncomputable def S_X4_of : Sem := lockS (inl P_X4_of 30 3) 0
theorem su_X4_of {l : Launch} {G : Gm} : SemU l G yX4_of (wsOf yX4_of cX4_of 3 (some .int)) 4 S_X4_of := sem_lock (sem_inl 30 (by decide +kernel) rfl ok_X4_of)
theorem d_X4_change_0 : decode cX4_change 0 = .ok (.aload_n 0, 1) := by decide +kernel
theorem d_X4_change_1 : decode cX4_change 1 = .ok (.getfield 12, 3) := by decide +kernel
theorem d_X4_change_4 : decode cX4_change 4 = .ok (.iload_n 1, 1) := by decide +kernel
theorem d_X4_change_5 : decode cX4_change 5 = .ok (.invokevirtual 82, 3) := by decide +kernel
theorem d_X4_change_8 : decode cX4_change 8 = .ok (.ifCond .eq 12, 3) := by decide +kernel
theorem d_X4_change_11 : decode cX4_change 11 = .ok (.iload_n 2, 1) := by decide +kernel
theorem d_X4_change_12 : decode cX4_change 12 = .ok (.iconst 0, 1) := by decide +kernel
theorem d_X4_change_13 : decode cX4_change 13 = .ok (.iconst 5, 1) := by decide +kernel
theorem d_X4_change_14 : decode cX4_change 14 = .ok (.invokestatic 44, 3) := by decide +kernel
theorem d_X4_change_17 : decode cX4_change 17 = .ok (.ifCond .ne 10, 3) := by decide +kernel
theorem d_X4_change_20 : decode cX4_change 20 = .ok (.aload_n 0, 1) := by decide +kernel
theorem d_X4_change_21 : decode cX4_change 21 = .ok (.ldc 55, 2) := by decide +kernel
theorem d_X4_change_23 : decode cX4_change 23 = .ok (.invokevirtual 56, 3) := by decide +kernel
theorem d_X4_change_26 : decode cX4_change 26 = .ok (.ireturn, 1) := by decide +kernel
theorem d_X4_change_27 : decode cX4_change 27 = .ok (.aload_n 0, 1) := by decide +kernel
theorem d_X4_change_28 : decode cX4_change 28 = .ok (.getfield 12, 3) := by decide +kernel
theorem d_X4_change_31 : decode cX4_change 31 = .ok (.getfield 87, 3) := by decide +kernel
theorem d_X4_change_34 : decode cX4_change 34 = .ok (.iload_n 1, 1) := by decide +kernel
theorem d_X4_change_35 : decode cX4_change 35 = .ok (.aaload, 1) := by decide +kernel
theorem d_X4_change_36 : decode cX4_change 36 = .ok (.astore 4, 2) := by decide +kernel
theorem d_X4_change_38 : decode cX4_change 38 = .ok (.iload_n 3, 1) := by decide +kernel
theorem d_X4_change_39 : decode cX4_change 39 = .ok (.iconst 0, 1) := by decide +kernel
theorem d_X4_change_40 : decode cX4_change 40 = .ok (.aload 4, 2) := by decide +kernel
theorem d_X4_change_42 : decode cX4_change 42 = .ok (.iload_n 2, 1) := by decide +kernel
theorem d_X4_change_43 : decode cX4_change 43 = .ok (.invokevirtual 98, 3) := by decide +kernel
theorem d_X4_change_46 : decode cX4_change 46 = .ok (.invokestatic 44, 3) := by decide +kernel
theorem d_X4_change_49 : decode cX4_change 49 = .ok (.ifCond .ne 10, 3) := by decide +kernel
theorem d_X4_change_52 : decode cX4_change 52 = .ok (.aload_n 0, 1) := by decide +kernel
theorem d_X4_change_53 : decode cX4_change 53 = .ok (.ldc 55, 2) := by decide +kernel
theorem d_X4_change_55 : decode cX4_change 55 = .ok (.invokevirtual 56, 3) := by decide +kernel
theorem d_X4_change_58 : decode cX4_change 58 = .ok (.ireturn, 1) := by decide +kernel
theorem d_X4_change_59 : decode cX4_change 59 = .ok (.aload 4, 2) := by decide +kernel
theorem d_X4_change_61 : decode cX4_change 61 = .ok (.iload_n 2, 1) := by decide +kernel
theorem d_X4_change_62 : decode cX4_change 62 = .ok (.aload_n 0, 1) := by decide +kernel
theorem d_X4_change_63 : decode cX4_change 63 = .ok (.getfield 12, 3) := by decide +kernel
theorem d_X4_change_66 : decode cX4_change 66 = .ok (.getfield 52, 3) := by decide +kernel
theorem d_X4_change_69 : decode cX4_change 69 = .ok (.aload_n 0, 1) := by decide +kernel
theorem d_X4_change_70 : decode cX4_change 70 = .ok (.getfield 12, 3) := by decide +kernel
theorem d_X4_change_73 : decode cX4_change 73 = .ok (.getfield 91, 3) := by decide +kernel
theorem d_X4_change_76 : decode cX4_change 76 = .ok (.invokevirtual 94, 3) := by decide +kernel
theorem d_X4_change_79 : decode cX4_change 79 = .ok (.istore 5, 2) := by decide +kernel
theorem d_X4_change_81 : decode cX4_change 81 = .ok (.aload 4, 2) := by decide +kernel
theorem d_X4_change_83 : decode cX4_change 83 = .ok (.iload_n 2, 1) := by decide +kernel
theorem d_X4_change_84 : decode cX4_change 84 = .ok (.iload_n 3, 1) := by decide +kernel
theorem d_X4_change_85 : decode cX4_change 85 = .ok (.invokevirtual 101, 3) := by decide +kernel
theorem d_X4_change_88 : decode cX4_change 88 = .ok (.iload 5, 2) := by decide +kernel
theorem d_X4_change_90 : decode cX4_change 90 = .ok (.ireturn, 1) := by decide +kernel
noncomputable def P_X4_change : Nat → Op := fun pc => nd 42 pc (nd 21 pc (nd 11 pc (nd 4 pc (nd 1 pc (lf 0 pc (oALd 0 1)) (lf 1 pc (oGetR 4 0 4))) (nd 5 pc (lf 4 pc (oILd 1 5)) (nd 8 pc (lf 5 pc (oCaV 2 0 S_X0_has 8)) (lf 8 pc (oIfEq 20 11))))) (nd 14 pc (nd 12 pc (lf 11 pc (oILd 2 12)) (nd 13 pc (lf 12 pc (oCst 0 13)) (lf 13 pc (oCst 5 14)))) (nd 17 pc (lf 14 pc (oCaS 3 S_X4_isWithin 17)) (nd 20 pc (lf 17 pc (oIfEq 20 27)) (lf 20 pc (oALd 0 21)))))) (nd 34 pc (nd 27 pc (nd 23 pc (lf 21 pc (oCst (-1000001) 23)) (nd 26 pc (lf 23 pc (oCaV 2 4 S_X4_tell 26)) (lf 26 pc (oIRet)))) (nd 28 pc (lf 27 pc (oALd 0 28)) (nd 31 pc (lf 28 pc (oGetR 4 0 31)) (lf 31 pc (oGetR 0 8 34))))) (nd 38 pc (nd 35 pc (lf 34 pc (oILd 1 35)) (nd 36 pc (lf 35 pc (oAAL 7 36)) (lf 36 pc (oASt 4 38)))) (nd 39 pc (lf 38 pc (oILd 3 39)) (nd 40 pc (lf 39 pc (oCst 0 40)) (lf 40 pc (oALd 4 42))))))) (nd 66 pc (nd 55 pc (nd 49 pc (nd 43 pc (lf 42 pc (oILd 2 43)) (nd 46 pc (lf 43 pc (oCaV 2 1 S_X1_most 46)) (lf 46 pc (oCaS 3 S_X4_isWithin 49)))) (nd 52 pc (lf 49 pc (oIfEq 52 59)) (nd 53 pc (lf 52 pc (oALd 0 53)) (lf 53 pc (oCst (-1000001) 55))))) (nd 61 pc (nd 58 pc (lf 55 pc (oCaV 2 4 S_X4_tell 58)) (nd 59 pc (lf 58 pc (oIRet)) (lf 59 pc (oALd 4 61)))) (nd 62 pc (lf 61 pc (oILd 2 62)) (nd 63 pc (lf 62 pc (oALd 0 63)) (lf 63 pc (oGetR 4 0 66)))))) (nd 81 pc (nd 73 pc (nd 69 pc (lf 66 pc (oGetI 0 1 69)) (nd 70 pc (lf 69 pc (oALd 0 70)) (lf 70 pc (oGetR 4 0 73)))) (nd 76 pc (lf 73 pc (oGetI 0 3 76)) (nd 79 pc (lf 76 pc (oCaV 4 1 S_X1_tells 79)) (lf 79 pc (oISt 5 81))))) (nd 85 pc (nd 83 pc (lf 81 pc (oALd 4 83)) (nd 84 pc (lf 83 pc (oILd 2 84)) (lf 84 pc (oILd 3 85)))) (nd 88 pc (lf 85 pc (oCaV 3 1 S_X1_put 88)) (nd 90 pc (lf 88 pc (oILd 5 90)) (lf 90 pc (oIRet)))))))
theorem ok_X4_change {l : Launch} {G : Gm} : ∀ pc, OkU (TXm l G (rmD 4) 6 cX4_change RX4) (RXm l G (rmD 4) 6 cX4_change RX4 (some .int)) pc (P_X4_change pc) := fun pc => ok_nd (ok_nd (ok_nd (ok_nd (ok_nd (ok_lf (ok_ALdn d_X4_change_0 rfl rfl)) (ok_lf (ok_GetR (by decide) (by decide) rfl d_X4_change_1 q154 rfl))) (ok_nd (ok_lf (ok_ILdn d_X4_change_4 rfl rfl)) (ok_nd (ok_lf (ok_CaVN su_X0_has (by decide) rfl d_X4_change_5 q227 q229 z4 q2 q230 ⟨by decide +kernel, by decide +kernel, by decide +kernel⟩ ⟨by decide, by decide⟩ rfl)) (ok_lf (ok_IfEq d_X4_change_8 (by decide) rfl))))) (ok_nd (ok_nd (ok_lf (ok_ILdn d_X4_change_11 rfl rfl)) (ok_nd (ok_lf (ok_ICst d_X4_change_12 (by decide) rfl)) (ok_lf (ok_ICst d_X4_change_13 (by decide) rfl)))) (ok_nd (ok_lf (ok_CaS su_X4_isWithin d_X4_change_14 q180 q181 q1 q182 ⟨by decide +kernel, by decide +kernel, by decide +kernel⟩ ⟨by decide, by decide⟩ rfl)) (ok_nd (ok_lf (ok_IfNe d_X4_change_17 (by decide) rfl)) (ok_lf (ok_ALdn d_X4_change_20 rfl rfl)))))) (ok_nd (ok_nd (ok_nd (ok_lf (ok_Ldc d_X4_change_21 q183 rfl)) (ok_nd (ok_lf (ok_CaV su_X4_tell (by decide) rfl d_X4_change_23 q184 q186 z0 q1 q187 ⟨by decide +kernel, by decide +kernel, by decide +kernel⟩ ⟨by decide, by decide⟩ rfl)) (ok_lf (ok_IRet d_X4_change_26)))) (ok_nd (ok_lf (ok_ALdn d_X4_change_27 rfl rfl)) (ok_nd (ok_lf (ok_GetR (by decide) (by decide) rfl d_X4_change_28 q154 rfl)) (ok_lf (ok_GetRN (by decide) (by decide) rfl d_X4_change_31 q88 rfl))))) (ok_nd (ok_nd (ok_lf (ok_ILdn d_X4_change_34 rfl rfl)) (ok_nd (ok_lf (ok_AAL (by decide) (by decide) d_X4_change_35 rfl)) (ok_lf (ok_ASt d_X4_change_36 rfl)))) (ok_nd (ok_lf (ok_ILdn d_X4_change_38 rfl rfl)) (ok_nd (ok_lf (ok_ICst d_X4_change_39 (by decide) rfl)) (ok_lf (ok_ALd d_X4_change_40 rfl))))))) (ok_nd (ok_nd (ok_nd (ok_nd (ok_lf (ok_ILdn d_X4_change_42 rfl rfl)) (ok_nd (ok_lf (ok_CaVN su_X1_most (by decide) rfl d_X4_change_43 q269 q271 z12 q3 q272 ⟨by decide +kernel, by decide +kernel, by decide +kernel⟩ ⟨by decide, by decide⟩ rfl)) (ok_lf (ok_CaS su_X4_isWithin d_X4_change_46 q180 q181 q1 q182 ⟨by decide +kernel, by decide +kernel, by decide +kernel⟩ ⟨by decide, by decide⟩ rfl)))) (ok_nd (ok_lf (ok_IfNe d_X4_change_49 (by decide) rfl)) (ok_nd (ok_lf (ok_ALdn d_X4_change_52 rfl rfl)) (ok_lf (ok_Ldc d_X4_change_53 q183 rfl))))) (ok_nd (ok_nd (ok_lf (ok_CaV su_X4_tell (by decide) rfl d_X4_change_55 q184 q186 z0 q1 q187 ⟨by decide +kernel, by decide +kernel, by decide +kernel⟩ ⟨by decide, by decide⟩ rfl)) (ok_nd (ok_lf (ok_IRet d_X4_change_58)) (ok_lf (ok_ALd d_X4_change_59 rfl)))) (ok_nd (ok_lf (ok_ILdn d_X4_change_61 rfl rfl)) (ok_nd (ok_lf (ok_ALdn d_X4_change_62 rfl rfl)) (ok_lf (ok_GetR (by decide) (by decide) rfl d_X4_change_63 q154 rfl)))))) (ok_nd (ok_nd (ok_nd (ok_lf (ok_GetIN (by decide) (by decide) rfl d_X4_change_66 q71 rfl)) (ok_nd (ok_lf (ok_ALdn d_X4_change_69 rfl rfl)) (ok_lf (ok_GetR (by decide) (by decide) rfl d_X4_change_70 q154 rfl)))) (ok_nd (ok_lf (ok_GetIN (by decide) (by decide) rfl d_X4_change_73 q76 rfl)) (ok_nd (ok_lf (ok_CaVN su_X1_tells (by decide) rfl d_X4_change_76 q231 q233 z5 q3 q234 ⟨by decide +kernel, by decide +kernel, by decide +kernel⟩ ⟨by decide, by decide⟩ rfl)) (ok_lf (ok_ISt d_X4_change_79 rfl))))) (ok_nd (ok_nd (ok_lf (ok_ALd d_X4_change_81 rfl)) (ok_nd (ok_lf (ok_ILdn d_X4_change_83 rfl rfl)) (ok_lf (ok_ILdn d_X4_change_84 rfl rfl)))) (ok_nd (ok_lf (ok_CaVN su_X1_put (by decide) rfl d_X4_change_85 q273 q275 z13 q3 q276 ⟨by decide +kernel, by decide +kernel, by decide +kernel⟩ ⟨by decide, by decide⟩ rfl)) (ok_nd (ok_lf (ok_ILd d_X4_change_88 rfl)) (ok_lf (ok_IRet d_X4_change_90)))))))
noncomputable def S_X4_change : Sem := lockS (inl P_X4_change 49 6) 0
theorem su_X4_change {l : Launch} {G : Gm} : SemU l G yX4_change (wsOf yX4_change cX4_change 6 (some .int)) 4 S_X4_change := sem_lock (sem_inl 49 (by decide +kernel) rfl ok_X4_change)
theorem d_X4_turning_0 : decode cX4_turning 0 = .ok (.aload_n 0, 1) := by decide +kernel
theorem d_X4_turning_1 : decode cX4_turning 1 = .ok (.getfield 12, 3) := by decide +kernel
theorem d_X4_turning_4 : decode cX4_turning 4 = .ok (.iload_n 1, 1) := by decide +kernel
theorem d_X4_turning_5 : decode cX4_turning 5 = .ok (.iload_n 2, 1) := by decide +kernel
theorem d_X4_turning_6 : decode cX4_turning 6 = .ok (.invokevirtual 105, 3) := by decide +kernel
theorem d_X4_turning_9 : decode cX4_turning 9 = .ok (.ifCond .eq 22, 3) := by decide +kernel
theorem d_X4_turning_12 : decode cX4_turning 12 = .ok (.aload_n 0, 1) := by decide +kernel
theorem d_X4_turning_13 : decode cX4_turning 13 = .ok (.getfield 12, 3) := by decide +kernel
theorem d_X4_turning_16 : decode cX4_turning 16 = .ok (.aload_n 0, 1) := by decide +kernel
theorem d_X4_turning_17 : decode cX4_turning 17 = .ok (.getfield 12, 3) := by decide +kernel
theorem d_X4_turning_20 : decode cX4_turning 20 = .ok (.getfield 48, 3) := by decide +kernel
theorem d_X4_turning_23 : decode cX4_turning 23 = .ok (.iload_n 1, 1) := by decide +kernel
theorem d_X4_turning_24 : decode cX4_turning 24 = .ok (.iload_n 2, 1) := by decide +kernel
theorem d_X4_turning_25 : decode cX4_turning 25 = .ok (.invokevirtual 109, 3) := by decide +kernel
theorem d_X4_turning_28 : decode cX4_turning 28 = .ok (.goto 9, 3) := by decide +kernel
theorem d_X4_turning_31 : decode cX4_turning 31 = .ok (.aload_n 0, 1) := by decide +kernel
theorem d_X4_turning_32 : decode cX4_turning 32 = .ok (.ldc 55, 2) := by decide +kernel
theorem d_X4_turning_34 : decode cX4_turning 34 = .ok (.invokevirtual 56, 3) := by decide +kernel
theorem d_X4_turning_37 : decode cX4_turning 37 = .ok (.ireturn, 1) := by decide +kernel
noncomputable def P_X4_turning : Nat → Op := fun pc => nd 17 pc (nd 6 pc (nd 4 pc (nd 1 pc (lf 0 pc (oALd 0 1)) (lf 1 pc (oGetR 4 0 4))) (nd 5 pc (lf 4 pc (oILd 1 5)) (lf 5 pc (oILd 2 6)))) (nd 12 pc (nd 9 pc (lf 6 pc (oCaV 3 0 S_X0_areTwo 9)) (lf 9 pc (oIfEq 31 12))) (nd 13 pc (lf 12 pc (oALd 0 13)) (nd 16 pc (lf 13 pc (oGetR 4 0 16)) (lf 16 pc (oALd 0 17)))))) (nd 28 pc (nd 23 pc (nd 20 pc (lf 17 pc (oGetR 4 0 20)) (lf 20 pc (oGetI 0 0 23))) (nd 24 pc (lf 23 pc (oILd 1 24)) (nd 25 pc (lf 24 pc (oILd 2 25)) (lf 25 pc (oCaV 4 0 S_X0_turns 28))))) (nd 32 pc (nd 31 pc (lf 28 pc (oGo 37)) (lf 31 pc (oALd 0 32))) (nd 34 pc (lf 32 pc (oCst (-1000001) 34)) (nd 37 pc (lf 34 pc (oCaV 2 4 S_X4_tell 37)) (lf 37 pc (oIRet))))))
theorem ok_X4_turning {l : Launch} {G : Gm} : ∀ pc, OkU (TXm l G (rmD 3) 3 cX4_turning RX4) (RXm l G (rmD 3) 3 cX4_turning RX4 (some .int)) pc (P_X4_turning pc) := fun pc => ok_nd (ok_nd (ok_nd (ok_nd (ok_lf (ok_ALdn d_X4_turning_0 rfl rfl)) (ok_lf (ok_GetR (by decide) (by decide) rfl d_X4_turning_1 q154 rfl))) (ok_nd (ok_lf (ok_ILdn d_X4_turning_4 rfl rfl)) (ok_lf (ok_ILdn d_X4_turning_5 rfl rfl)))) (ok_nd (ok_nd (ok_lf (ok_CaVN su_X0_areTwo (by decide) rfl d_X4_turning_6 q281 q283 z14 q2 q284 ⟨by decide +kernel, by decide +kernel, by decide +kernel⟩ ⟨by decide, by decide⟩ rfl)) (ok_lf (ok_IfEq d_X4_turning_9 (by decide) rfl))) (ok_nd (ok_lf (ok_ALdn d_X4_turning_12 rfl rfl)) (ok_nd (ok_lf (ok_GetR (by decide) (by decide) rfl d_X4_turning_13 q154 rfl)) (ok_lf (ok_ALdn d_X4_turning_16 rfl rfl)))))) (ok_nd (ok_nd (ok_nd (ok_lf (ok_GetR (by decide) (by decide) rfl d_X4_turning_17 q154 rfl)) (ok_lf (ok_GetIN (by decide) (by decide) rfl d_X4_turning_20 q68 rfl))) (ok_nd (ok_lf (ok_ILdn d_X4_turning_23 rfl rfl)) (ok_nd (ok_lf (ok_ILdn d_X4_turning_24 rfl rfl)) (ok_lf (ok_CaVN su_X0_turns (by decide) rfl d_X4_turning_25 q286 q288 z15 q2 q289 ⟨by decide +kernel, by decide +kernel, by decide +kernel⟩ ⟨by decide, by decide⟩ rfl))))) (ok_nd (ok_nd (ok_lf (ok_Go d_X4_turning_28 (by decide))) (ok_lf (ok_ALdn d_X4_turning_31 rfl rfl))) (ok_nd (ok_lf (ok_Ldc d_X4_turning_32 q183 rfl)) (ok_nd (ok_lf (ok_CaV su_X4_tell (by decide) rfl d_X4_turning_34 q184 q186 z0 q1 q187 ⟨by decide +kernel, by decide +kernel, by decide +kernel⟩ ⟨by decide, by decide⟩ rfl)) (ok_lf (ok_IRet d_X4_turning_37))))))
noncomputable def S_X4_turning : Sem := lockS (inl P_X4_turning 21 3) 0
theorem su_X4_turning {l : Launch} {G : Gm} : SemU l G yX4_turning (wsOf yX4_turning cX4_turning 3 (some .int)) 3 S_X4_turning := sem_lock (sem_inl 21 (by decide +kernel) rfl ok_X4_turning)
theorem d_X4_falls_0 : decode cX4_falls 0 = .ok (.aload_n 0, 1) := by decide +kernel
theorem d_X4_falls_1 : decode cX4_falls 1 = .ok (.getfield 12, 3) := by decide +kernel
theorem d_X4_falls_4 : decode cX4_falls 4 = .ok (.iload_n 1, 1) := by decide +kernel
theorem d_X4_falls_5 : decode cX4_falls 5 = .ok (.iload_n 2, 1) := by decide +kernel
theorem d_X4_falls_6 : decode cX4_falls 6 = .ok (.invokevirtual 105, 3) := by decide +kernel
theorem d_X4_falls_9 : decode cX4_falls 9 = .ok (.ifCond .ne 10, 3) := by decide +kernel
theorem d_X4_falls_12 : decode cX4_falls 12 = .ok (.aload_n 0, 1) := by decide +kernel
theorem d_X4_falls_13 : decode cX4_falls 13 = .ok (.ldc 55, 2) := by decide +kernel
theorem d_X4_falls_15 : decode cX4_falls 15 = .ok (.invokevirtual 56, 3) := by decide +kernel
theorem d_X4_falls_18 : decode cX4_falls 18 = .ok (.ireturn, 1) := by decide +kernel
theorem d_X4_falls_19 : decode cX4_falls 19 = .ok (.aload_n 0, 1) := by decide +kernel
theorem d_X4_falls_20 : decode cX4_falls 20 = .ok (.getfield 12, 3) := by decide +kernel
theorem d_X4_falls_23 : decode cX4_falls 23 = .ok (.aload_n 0, 1) := by decide +kernel
theorem d_X4_falls_24 : decode cX4_falls 24 = .ok (.getfield 12, 3) := by decide +kernel
theorem d_X4_falls_27 : decode cX4_falls 27 = .ok (.getfield 48, 3) := by decide +kernel
theorem d_X4_falls_30 : decode cX4_falls 30 = .ok (.iload_n 1, 1) := by decide +kernel
theorem d_X4_falls_31 : decode cX4_falls 31 = .ok (.iload_n 2, 1) := by decide +kernel
theorem d_X4_falls_32 : decode cX4_falls 32 = .ok (.invokevirtual 112, 3) := by decide +kernel
theorem d_X4_falls_35 : decode cX4_falls 35 = .ok (.istore_n 3, 1) := by decide +kernel
theorem d_X4_falls_36 : decode cX4_falls 36 = .ok (.iload_n 3, 1) := by decide +kernel
theorem d_X4_falls_37 : decode cX4_falls 37 = .ok (.iconst (-1), 1) := by decide +kernel
theorem d_X4_falls_38 : decode cX4_falls 38 = .ok (.if_icmp .ne 12, 3) := by decide +kernel
theorem d_X4_falls_41 : decode cX4_falls 41 = .ok (.aload_n 0, 1) := by decide +kernel
theorem d_X4_falls_42 : decode cX4_falls 42 = .ok (.ldc 115, 2) := by decide +kernel
theorem d_X4_falls_44 : decode cX4_falls 44 = .ok (.invokevirtual 56, 3) := by decide +kernel
theorem d_X4_falls_47 : decode cX4_falls 47 = .ok (.goto 4, 3) := by decide +kernel
theorem d_X4_falls_50 : decode cX4_falls 50 = .ok (.iload_n 3, 1) := by decide +kernel
theorem d_X4_falls_51 : decode cX4_falls 51 = .ok (.ireturn, 1) := by decide +kernel
noncomputable def P_X4_falls : Nat → Op := fun pc => nd 27 pc (nd 13 pc (nd 5 pc (nd 1 pc (lf 0 pc (oALd 0 1)) (nd 4 pc (lf 1 pc (oGetR 4 0 4)) (lf 4 pc (oILd 1 5)))) (nd 9 pc (nd 6 pc (lf 5 pc (oILd 2 6)) (lf 6 pc (oCaV 3 0 S_X0_areTwo 9))) (nd 12 pc (lf 9 pc (oIfEq 12 19)) (lf 12 pc (oALd 0 13))))) (nd 19 pc (nd 15 pc (lf 13 pc (oCst (-1000001) 15)) (nd 18 pc (lf 15 pc (oCaV 2 4 S_X4_tell 18)) (lf 18 pc (oIRet)))) (nd 23 pc (nd 20 pc (lf 19 pc (oALd 0 20)) (lf 20 pc (oGetR 4 0 23))) (nd 24 pc (lf 23 pc (oALd 0 24)) (lf 24 pc (oGetR 4 0 27)))))) (nd 38 pc (nd 32 pc (nd 30 pc (lf 27 pc (oGetI 0 0 30)) (nd 31 pc (lf 30 pc (oILd 1 31)) (lf 31 pc (oILd 2 32)))) (nd 36 pc (nd 35 pc (lf 32 pc (oCaV 4 0 S_X0_loser 35)) (lf 35 pc (oISt 3 36))) (nd 37 pc (lf 36 pc (oILd 3 37)) (lf 37 pc (oCst (-1) 38))))) (nd 44 pc (nd 41 pc (lf 38 pc (oCpEq 41 50)) (nd 42 pc (lf 41 pc (oALd 0 42)) (lf 42 pc (oCst (-1000004) 44)))) (nd 50 pc (nd 47 pc (lf 44 pc (oCaV 2 4 S_X4_tell 47)) (lf 47 pc (oGo 51))) (nd 51 pc (lf 50 pc (oILd 3 51)) (lf 51 pc (oIRet))))))
theorem ok_X4_falls {l : Launch} {G : Gm} : ∀ pc, OkU (TXm l G (rmD 4) 4 cX4_falls RX4) (RXm l G (rmD 4) 4 cX4_falls RX4 (some .int)) pc (P_X4_falls pc) := fun pc => ok_nd (ok_nd (ok_nd (ok_nd (ok_lf (ok_ALdn d_X4_falls_0 rfl rfl)) (ok_nd (ok_lf (ok_GetR (by decide) (by decide) rfl d_X4_falls_1 q154 rfl)) (ok_lf (ok_ILdn d_X4_falls_4 rfl rfl)))) (ok_nd (ok_nd (ok_lf (ok_ILdn d_X4_falls_5 rfl rfl)) (ok_lf (ok_CaVN su_X0_areTwo (by decide) rfl d_X4_falls_6 q281 q283 z14 q2 q284 ⟨by decide +kernel, by decide +kernel, by decide +kernel⟩ ⟨by decide, by decide⟩ rfl))) (ok_nd (ok_lf (ok_IfNe d_X4_falls_9 (by decide) rfl)) (ok_lf (ok_ALdn d_X4_falls_12 rfl rfl))))) (ok_nd (ok_nd (ok_lf (ok_Ldc d_X4_falls_13 q183 rfl)) (ok_nd (ok_lf (ok_CaV su_X4_tell (by decide) rfl d_X4_falls_15 q184 q186 z0 q1 q187 ⟨by decide +kernel, by decide +kernel, by decide +kernel⟩ ⟨by decide, by decide⟩ rfl)) (ok_lf (ok_IRet d_X4_falls_18)))) (ok_nd (ok_nd (ok_lf (ok_ALdn d_X4_falls_19 rfl rfl)) (ok_lf (ok_GetR (by decide) (by decide) rfl d_X4_falls_20 q154 rfl))) (ok_nd (ok_lf (ok_ALdn d_X4_falls_23 rfl rfl)) (ok_lf (ok_GetR (by decide) (by decide) rfl d_X4_falls_24 q154 rfl)))))) (ok_nd (ok_nd (ok_nd (ok_lf (ok_GetIN (by decide) (by decide) rfl d_X4_falls_27 q68 rfl)) (ok_nd (ok_lf (ok_ILdn d_X4_falls_30 rfl rfl)) (ok_lf (ok_ILdn d_X4_falls_31 rfl rfl)))) (ok_nd (ok_nd (ok_lf (ok_CaVN su_X0_loser (by decide) rfl d_X4_falls_32 q295 q297 z16 q2 q298 ⟨by decide +kernel, by decide +kernel, by decide +kernel⟩ ⟨by decide, by decide⟩ rfl)) (ok_lf (ok_IStn d_X4_falls_35 rfl rfl))) (ok_nd (ok_lf (ok_ILdn d_X4_falls_36 rfl rfl)) (ok_lf (ok_ICst d_X4_falls_37 (by decide) rfl))))) (ok_nd (ok_nd (ok_lf (ok_CpNe d_X4_falls_38 (by decide) rfl)) (ok_nd (ok_lf (ok_ALdn d_X4_falls_41 rfl rfl)) (ok_lf (ok_Ldc d_X4_falls_42 q301 rfl)))) (ok_nd (ok_nd (ok_lf (ok_CaV su_X4_tell (by decide) rfl d_X4_falls_44 q184 q186 z0 q1 q187 ⟨by decide +kernel, by decide +kernel, by decide +kernel⟩ ⟨by decide, by decide⟩ rfl)) (ok_lf (ok_Go d_X4_falls_47 (by decide)))) (ok_nd (ok_lf (ok_ILdn d_X4_falls_50 rfl rfl)) (ok_lf (ok_IRet d_X4_falls_51))))))
noncomputable def S_X4_falls : Sem := lockS (inl P_X4_falls 30 4) 0
theorem su_X4_falls {l : Launch} {G : Gm} : SemU l G yX4_falls (wsOf yX4_falls cX4_falls 4 (some .int)) 4 S_X4_falls := sem_lock (sem_inl 30 (by decide +kernel) rfl ok_X4_falls)
theorem d_X4_go_0 : decode cX4_go 0 = .ok (.iload_n 1, 1) := by decide +kernel
theorem d_X4_go_1 : decode cX4_go 1 = .ok (.iconst 1, 1) := by decide +kernel
theorem d_X4_go_2 : decode cX4_go 2 = .ok (.bipush 60, 2) := by decide +kernel
theorem d_X4_go_4 : decode cX4_go 4 = .ok (.invokestatic 44, 3) := by decide +kernel
theorem d_X4_go_7 : decode cX4_go 7 = .ok (.ifCond .ne 10, 3) := by decide +kernel
theorem d_X4_go_10 : decode cX4_go 10 = .ok (.aload_n 0, 1) := by decide +kernel
theorem d_X4_go_11 : decode cX4_go 11 = .ok (.ldc 55, 2) := by decide +kernel
theorem d_X4_go_13 : decode cX4_go 13 = .ok (.invokevirtual 56, 3) := by decide +kernel
theorem d_X4_go_16 : decode cX4_go 16 = .ok (.ireturn, 1) := by decide +kernel
theorem d_X4_go_17 : decode cX4_go 17 = .ok (.aload_n 0, 1) := by decide +kernel
theorem d_X4_go_18 : decode cX4_go 18 = .ok (.getfield 12, 3) := by decide +kernel
theorem d_X4_go_21 : decode cX4_go 21 = .ok (.getfield 91, 3) := by decide +kernel
theorem d_X4_go_24 : decode cX4_go 24 = .ok (.iload_n 1, 1) := by decide +kernel
theorem d_X4_go_25 : decode cX4_go 25 = .ok (.iadd, 1) := by decide +kernel
theorem d_X4_go_26 : decode cX4_go 26 = .ok (.ldc 116, 2) := by decide +kernel
theorem d_X4_go_28 : decode cX4_go 28 = .ok (.if_icmp .le 10, 3) := by decide +kernel
theorem d_X4_go_31 : decode cX4_go 31 = .ok (.aload_n 0, 1) := by decide +kernel
theorem d_X4_go_32 : decode cX4_go 32 = .ok (.ldc 117, 2) := by decide +kernel
theorem d_X4_go_34 : decode cX4_go 34 = .ok (.invokevirtual 56, 3) := by decide +kernel
theorem d_X4_go_37 : decode cX4_go 37 = .ok (.ireturn, 1) := by decide +kernel
theorem d_X4_go_38 : decode cX4_go 38 = .ok (.iconst 0, 1) := by decide +kernel
theorem d_X4_go_39 : decode cX4_go 39 = .ok (.istore_n 2, 1) := by decide +kernel
theorem d_X4_go_40 : decode cX4_go 40 = .ok (.iload_n 2, 1) := by decide +kernel
theorem d_X4_go_41 : decode cX4_go 41 = .ok (.iload_n 1, 1) := by decide +kernel
theorem d_X4_go_42 : decode cX4_go 42 = .ok (.if_icmp .ge 16, 3) := by decide +kernel
theorem d_X4_go_45 : decode cX4_go 45 = .ok (.aload_n 0, 1) := by decide +kernel
theorem d_X4_go_46 : decode cX4_go 46 = .ok (.getfield 12, 3) := by decide +kernel
theorem d_X4_go_49 : decode cX4_go 49 = .ok (.invokevirtual 118, 3) := by decide +kernel
theorem d_X4_go_52 : decode cX4_go 52 = .ok (.iinc 2 1, 3) := by decide +kernel
theorem d_X4_go_55 : decode cX4_go 55 = .ok (.goto (-15), 3) := by decide +kernel
theorem d_X4_go_58 : decode cX4_go 58 = .ok (.aload_n 0, 1) := by decide +kernel
theorem d_X4_go_59 : decode cX4_go 59 = .ok (.getfield 12, 3) := by decide +kernel
theorem d_X4_go_62 : decode cX4_go 62 = .ok (.invokevirtual 121, 3) := by decide +kernel
theorem d_X4_go_65 : decode cX4_go 65 = .ok (.ireturn, 1) := by decide +kernel
noncomputable def P_X4_go : Nat → Op := fun pc => nd 32 pc (nd 16 pc (nd 7 pc (nd 2 pc (nd 1 pc (lf 0 pc (oILd 1 1)) (lf 1 pc (oCst 1 2))) (nd 4 pc (lf 2 pc (oCst 60 4)) (lf 4 pc (oCaS 3 S_X4_isWithin 7)))) (nd 11 pc (nd 10 pc (lf 7 pc (oIfEq 10 17)) (lf 10 pc (oALd 0 11))) (nd 13 pc (lf 11 pc (oCst (-1000001) 13)) (lf 13 pc (oCaV 2 4 S_X4_tell 16))))) (nd 24 pc (nd 18 pc (nd 17 pc (lf 16 pc (oIRet)) (lf 17 pc (oALd 0 18))) (nd 21 pc (lf 18 pc (oGetR 4 0 21)) (lf 21 pc (oGetI 0 3 24)))) (nd 26 pc (nd 25 pc (lf 24 pc (oILd 1 25)) (lf 25 pc (oBin (fun x y => x + y) 26))) (nd 28 pc (lf 26 pc (oCst (99999) 28)) (nd 31 pc (lf 28 pc (oCpGt 31 38)) (lf 31 pc (oALd 0 32))))))) (nd 45 pc (nd 39 pc (nd 37 pc (nd 34 pc (lf 32 pc (oCst (-1000005) 34)) (lf 34 pc (oCaV 2 4 S_X4_tell 37))) (nd 38 pc (lf 37 pc (oIRet)) (lf 38 pc (oCst 0 39)))) (nd 41 pc (nd 40 pc (lf 39 pc (oISt 2 40)) (lf 40 pc (lockO (oILd 2 41) 0))) (nd 42 pc (lf 41 pc (oILd 1 42)) (lf 42 pc (oCpLt 45 58))))) (nd 55 pc (nd 49 pc (nd 46 pc (lf 45 pc (oALd 0 46)) (lf 46 pc (oGetR 4 0 49))) (nd 52 pc (lf 49 pc (oCaV 1 0 S_X0_dropOnce 52)) (lf 52 pc (oInc 2 1 55)))) (nd 59 pc (nd 58 pc (lf 55 pc (oGo 40)) (lf 58 pc (oALd 0 59))) (nd 62 pc (lf 59 pc (oGetR 4 0 62)) (nd 65 pc (lf 62 pc (oCaV 1 0 S_X0_wrongs 65)) (lf 65 pc (oIRet)))))))
theorem ok_X4_go {l : Launch} {G : Gm} : ∀ pc, OkU (TXm l G (rmD 6) 3 cX4_go RX4) (RXm l G (rmD 6) 3 cX4_go RX4 (some .int)) pc (P_X4_go pc) := fun pc => ok_nd (ok_nd (ok_nd (ok_nd (ok_nd (ok_lf (ok_ILdn d_X4_go_0 rfl rfl)) (ok_lf (ok_ICst d_X4_go_1 (by decide) rfl))) (ok_nd (ok_lf (ok_BCst d_X4_go_2 (by decide) rfl)) (ok_lf (ok_CaS su_X4_isWithin d_X4_go_4 q180 q181 q1 q182 ⟨by decide +kernel, by decide +kernel, by decide +kernel⟩ ⟨by decide, by decide⟩ rfl)))) (ok_nd (ok_nd (ok_lf (ok_IfNe d_X4_go_7 (by decide) rfl)) (ok_lf (ok_ALdn d_X4_go_10 rfl rfl))) (ok_nd (ok_lf (ok_Ldc d_X4_go_11 q183 rfl)) (ok_lf (ok_CaV su_X4_tell (by decide) rfl d_X4_go_13 q184 q186 z0 q1 q187 ⟨by decide +kernel, by decide +kernel, by decide +kernel⟩ ⟨by decide, by decide⟩ rfl))))) (ok_nd (ok_nd (ok_nd (ok_lf (ok_IRet d_X4_go_16)) (ok_lf (ok_ALdn d_X4_go_17 rfl rfl))) (ok_nd (ok_lf (ok_GetR (by decide) (by decide) rfl d_X4_go_18 q154 rfl)) (ok_lf (ok_GetIN (by decide) (by decide) rfl d_X4_go_21 q76 rfl)))) (ok_nd (ok_nd (ok_lf (ok_ILdn d_X4_go_24 rfl rfl)) (ok_lf (ok_iadd d_X4_go_25 rfl))) (ok_nd (ok_lf (ok_Ldc d_X4_go_26 q306 rfl)) (ok_nd (ok_lf (ok_CpLe d_X4_go_28 (by decide) rfl)) (ok_lf (ok_ALdn d_X4_go_31 rfl rfl))))))) (ok_nd (ok_nd (ok_nd (ok_nd (ok_lf (ok_Ldc d_X4_go_32 q307 rfl)) (ok_lf (ok_CaV su_X4_tell (by decide) rfl d_X4_go_34 q184 q186 z0 q1 q187 ⟨by decide +kernel, by decide +kernel, by decide +kernel⟩ ⟨by decide, by decide⟩ rfl))) (ok_nd (ok_lf (ok_IRet d_X4_go_37)) (ok_lf (ok_ICst d_X4_go_38 (by decide) rfl)))) (ok_nd (ok_nd (ok_lf (ok_IStn d_X4_go_39 rfl rfl)) (ok_lf (ok_lk (ok_ILdn d_X4_go_40 rfl rfl)))) (ok_nd (ok_lf (ok_ILdn d_X4_go_41 rfl rfl)) (ok_lf (ok_CpGe d_X4_go_42 (by decide) rfl))))) (ok_nd (ok_nd (ok_nd (ok_lf (ok_ALdn d_X4_go_45 rfl rfl)) (ok_lf (ok_GetR (by decide) (by decide) rfl d_X4_go_46 q154 rfl))) (ok_nd (ok_lf (ok_CaVN su_X0_dropOnce (by decide) rfl d_X4_go_49 q308 q310 z17 q2 q311 ⟨by decide +kernel, by decide +kernel, by decide +kernel⟩ ⟨by decide, by decide⟩ rfl)) (ok_lf (ok_Inc d_X4_go_52 (by decide) rfl)))) (ok_nd (ok_nd (ok_lf (ok_Go d_X4_go_55 (by decide))) (ok_lf (ok_ALdn d_X4_go_58 rfl rfl))) (ok_nd (ok_lf (ok_GetR (by decide) (by decide) rfl d_X4_go_59 q154 rfl)) (ok_nd (ok_lf (ok_CaVN su_X0_wrongs (by decide) rfl d_X4_go_62 q336 q338 z23 q2 q339 ⟨by decide +kernel, by decide +kernel, by decide +kernel⟩ ⟨by decide, by decide⟩ rfl)) (ok_lf (ok_IRet d_X4_go_65)))))))
noncomputable def S_X4_go : Sem := lockS (inl P_X4_go 30000 3) 0
theorem su_X4_go {l : Launch} {G : Gm} : SemU l G yX4_go (wsOf yX4_go cX4_go 3 (some .int)) 6 S_X4_go := sem_lock (sem_inl 30000 (by decide +kernel) rfl ok_X4_go)
theorem d_X4_now_0 : decode cX4_now 0 = .ok (.iload_n 1, 1) := by decide +kernel
theorem d_X4_now_1 : decode cX4_now 1 = .ok (.tableswitch 119 0 7 #[47, 55, 63, 71, 79, 87, 95, 103], 47) := by decide +kernel
theorem d_X4_now_48 : decode cX4_now 48 = .ok (.aload_n 0, 1) := by decide +kernel
theorem d_X4_now_49 : decode cX4_now 49 = .ok (.getfield 12, 3) := by decide +kernel
theorem d_X4_now_52 : decode cX4_now 52 = .ok (.getfield 91, 3) := by decide +kernel
theorem d_X4_now_55 : decode cX4_now 55 = .ok (.ireturn, 1) := by decide +kernel
theorem d_X4_now_56 : decode cX4_now 56 = .ok (.aload_n 0, 1) := by decide +kernel
theorem d_X4_now_57 : decode cX4_now 57 = .ok (.getfield 12, 3) := by decide +kernel
theorem d_X4_now_60 : decode cX4_now 60 = .ok (.invokevirtual 121, 3) := by decide +kernel
theorem d_X4_now_63 : decode cX4_now 63 = .ok (.ireturn, 1) := by decide +kernel
theorem d_X4_now_64 : decode cX4_now 64 = .ok (.aload_n 0, 1) := by decide +kernel
theorem d_X4_now_65 : decode cX4_now 65 = .ok (.getfield 12, 3) := by decide +kernel
theorem d_X4_now_68 : decode cX4_now 68 = .ok (.getfield 60, 3) := by decide +kernel
theorem d_X4_now_71 : decode cX4_now 71 = .ok (.ireturn, 1) := by decide +kernel
theorem d_X4_now_72 : decode cX4_now 72 = .ok (.aload_n 0, 1) := by decide +kernel
theorem d_X4_now_73 : decode cX4_now 73 = .ok (.getfield 12, 3) := by decide +kernel
theorem d_X4_now_76 : decode cX4_now 76 = .ok (.invokevirtual 125, 3) := by decide +kernel
theorem d_X4_now_79 : decode cX4_now 79 = .ok (.ireturn, 1) := by decide +kernel
theorem d_X4_now_80 : decode cX4_now 80 = .ok (.aload_n 0, 1) := by decide +kernel
theorem d_X4_now_81 : decode cX4_now 81 = .ok (.getfield 12, 3) := by decide +kernel
theorem d_X4_now_84 : decode cX4_now 84 = .ok (.invokevirtual 128, 3) := by decide +kernel
theorem d_X4_now_87 : decode cX4_now 87 = .ok (.ireturn, 1) := by decide +kernel
theorem d_X4_now_88 : decode cX4_now 88 = .ok (.aload_n 0, 1) := by decide +kernel
theorem d_X4_now_89 : decode cX4_now 89 = .ok (.getfield 12, 3) := by decide +kernel
theorem d_X4_now_92 : decode cX4_now 92 = .ok (.invokevirtual 131, 3) := by decide +kernel
theorem d_X4_now_95 : decode cX4_now 95 = .ok (.ireturn, 1) := by decide +kernel
theorem d_X4_now_96 : decode cX4_now 96 = .ok (.aload_n 0, 1) := by decide +kernel
theorem d_X4_now_97 : decode cX4_now 97 = .ok (.getfield 12, 3) := by decide +kernel
theorem d_X4_now_100 : decode cX4_now 100 = .ok (.invokevirtual 134, 3) := by decide +kernel
theorem d_X4_now_103 : decode cX4_now 103 = .ok (.ireturn, 1) := by decide +kernel
theorem d_X4_now_104 : decode cX4_now 104 = .ok (.aload_n 0, 1) := by decide +kernel
theorem d_X4_now_105 : decode cX4_now 105 = .ok (.getfield 12, 3) := by decide +kernel
theorem d_X4_now_108 : decode cX4_now 108 = .ok (.invokevirtual 137, 3) := by decide +kernel
theorem d_X4_now_111 : decode cX4_now 111 = .ok (.ifCond .eq 7, 3) := by decide +kernel
theorem d_X4_now_114 : decode cX4_now 114 = .ok (.iconst 1, 1) := by decide +kernel
theorem d_X4_now_115 : decode cX4_now 115 = .ok (.goto 4, 3) := by decide +kernel
theorem d_X4_now_118 : decode cX4_now 118 = .ok (.iconst 0, 1) := by decide +kernel
theorem d_X4_now_119 : decode cX4_now 119 = .ok (.ireturn, 1) := by decide +kernel
theorem d_X4_now_120 : decode cX4_now 120 = .ok (.aload_n 0, 1) := by decide +kernel
theorem d_X4_now_121 : decode cX4_now 121 = .ok (.ldc 55, 2) := by decide +kernel
theorem d_X4_now_123 : decode cX4_now 123 = .ok (.invokevirtual 56, 3) := by decide +kernel
theorem d_X4_now_126 : decode cX4_now 126 = .ok (.ireturn, 1) := by decide +kernel
noncomputable def P_X4_now : Nat → Op := fun pc => nd 87 pc (nd 64 pc (nd 55 pc (nd 48 pc (nd 1 pc (lf 0 pc (oILd 1 1)) (lf 1 pc (oSw [(0, 48), (1, 56), (2, 64), (3, 72), (4, 80), (5, 88), (6, 96), (7, 104)] 120))) (nd 49 pc (lf 48 pc (oALd 0 49)) (nd 52 pc (lf 49 pc (oGetR 4 0 52)) (lf 52 pc (oGetI 0 3 55))))) (nd 57 pc (nd 56 pc (lf 55 pc (oIRet)) (lf 56 pc (oALd 0 57))) (nd 60 pc (lf 57 pc (oGetR 4 0 60)) (nd 63 pc (lf 60 pc (oCaV 1 0 S_X0_wrongs 63)) (lf 63 pc (oIRet)))))) (nd 73 pc (nd 68 pc (nd 65 pc (lf 64 pc (oALd 0 65)) (lf 65 pc (oGetR 4 0 68))) (nd 71 pc (lf 68 pc (oGetI 0 2 71)) (nd 72 pc (lf 71 pc (oIRet)) (lf 72 pc (oALd 0 73))))) (nd 80 pc (nd 76 pc (lf 73 pc (oGetR 4 0 76)) (nd 79 pc (lf 76 pc (oCaV 1 0 S_X0_moreWrong 79)) (lf 79 pc (oIRet)))) (nd 81 pc (lf 80 pc (oALd 0 81)) (nd 84 pc (lf 81 pc (oGetR 4 0 84)) (lf 84 pc (oCaV 1 0 S_X0_tempers 87))))))) (nd 105 pc (nd 96 pc (nd 89 pc (nd 88 pc (lf 87 pc (oIRet)) (lf 88 pc (oALd 0 89))) (nd 92 pc (lf 89 pc (oGetR 4 0 92)) (nd 95 pc (lf 92 pc (oCaV 1 0 S_X0_loudest 95)) (lf 95 pc (oIRet))))) (nd 100 pc (nd 97 pc (lf 96 pc (oALd 0 97)) (lf 97 pc (oGetR 4 0 100))) (nd 103 pc (lf 100 pc (oCaV 1 0 S_X0_silents 103)) (nd 104 pc (lf 103 pc (oIRet)) (lf 104 pc (oALd 0 105)))))) (nd 118 pc (nd 111 pc (nd 108 pc (lf 105 pc (oGetR 4 0 108)) (lf 108 pc (oCaV 1 0 S_X0_fallsOut 111))) (nd 114 pc (lf 111 pc (oIfEq 118 114)) (nd 115 pc (lf 114 pc (oCst 1 115)) (lf 115 pc (oGo 119))))) (nd 121 pc (nd 119 pc (lf 118 pc (oCst 0 119)) (nd 120 pc (lf 119 pc (oIRet)) (lf 120 pc (oALd 0 121)))) (nd 123 pc (lf 121 pc (oCst (-1000001) 123)) (nd 126 pc (lf 123 pc (oCaV 2 4 S_X4_tell 126)) (lf 126 pc (oIRet)))))))
theorem ok_X4_now {l : Launch} {G : Gm} : ∀ pc, OkU (TXm l G (rmD 4) 2 cX4_now RX4) (RXm l G (rmD 4) 2 cX4_now RX4 (some .int)) pc (P_X4_now pc) := fun pc => ok_nd (ok_nd (ok_nd (ok_nd (ok_nd (ok_lf (ok_ILdn d_X4_now_0 rfl rfl)) (ok_lf (ok_Tab d_X4_now_1 (by decide) (by decide) (by decide) (by decide)))) (ok_nd (ok_lf (ok_ALdn d_X4_now_48 rfl rfl)) (ok_nd (ok_lf (ok_GetR (by decide) (by decide) rfl d_X4_now_49 q154 rfl)) (ok_lf (ok_GetIN (by decide) (by decide) rfl d_X4_now_52 q76 rfl))))) (ok_nd (ok_nd (ok_lf (ok_IRet d_X4_now_55)) (ok_lf (ok_ALdn d_X4_now_56 rfl rfl))) (ok_nd (ok_lf (ok_GetR (by decide) (by decide) rfl d_X4_now_57 q154 rfl)) (ok_nd (ok_lf (ok_CaVN su_X0_wrongs (by decide) rfl d_X4_now_60 q336 q338 z23 q2 q339 ⟨by decide +kernel, by decide +kernel, by decide +kernel⟩ ⟨by decide, by decide⟩ rfl)) (ok_lf (ok_IRet d_X4_now_63)))))) (ok_nd (ok_nd (ok_nd (ok_lf (ok_ALdn d_X4_now_64 rfl rfl)) (ok_lf (ok_GetR (by decide) (by decide) rfl d_X4_now_65 q154 rfl))) (ok_nd (ok_lf (ok_GetIN (by decide) (by decide) rfl d_X4_now_68 q74 rfl)) (ok_nd (ok_lf (ok_IRet d_X4_now_71)) (ok_lf (ok_ALdn d_X4_now_72 rfl rfl))))) (ok_nd (ok_nd (ok_lf (ok_GetR (by decide) (by decide) rfl d_X4_now_73 q154 rfl)) (ok_nd (ok_lf (ok_CaVN su_X0_moreWrong (by decide) rfl d_X4_now_76 q344 q346 z24 q2 q347 ⟨by decide +kernel, by decide +kernel, by decide +kernel⟩ ⟨by decide, by decide⟩ rfl)) (ok_lf (ok_IRet d_X4_now_79)))) (ok_nd (ok_lf (ok_ALdn d_X4_now_80 rfl rfl)) (ok_nd (ok_lf (ok_GetR (by decide) (by decide) rfl d_X4_now_81 q154 rfl)) (ok_lf (ok_CaVN su_X0_tempers (by decide) rfl d_X4_now_84 q348 q350 z25 q2 q351 ⟨by decide +kernel, by decide +kernel, by decide +kernel⟩ ⟨by decide, by decide⟩ rfl))))))) (ok_nd (ok_nd (ok_nd (ok_nd (ok_lf (ok_IRet d_X4_now_87)) (ok_lf (ok_ALdn d_X4_now_88 rfl rfl))) (ok_nd (ok_lf (ok_GetR (by decide) (by decide) rfl d_X4_now_89 q154 rfl)) (ok_nd (ok_lf (ok_CaVN su_X0_loudest (by decide) rfl d_X4_now_92 q352 q354 z26 q2 q355 ⟨by decide +kernel, by decide +kernel, by decide +kernel⟩ ⟨by decide, by decide⟩ rfl)) (ok_lf (ok_IRet d_X4_now_95))))) (ok_nd (ok_nd (ok_lf (ok_ALdn d_X4_now_96 rfl rfl)) (ok_lf (ok_GetR (by decide) (by decide) rfl d_X4_now_97 q154 rfl))) (ok_nd (ok_lf (ok_CaVN su_X0_silents (by decide) rfl d_X4_now_100 q356 q358 z27 q2 q359 ⟨by decide +kernel, by decide +kernel, by decide +kernel⟩ ⟨by decide, by decide⟩ rfl)) (ok_nd (ok_lf (ok_IRet d_X4_now_103)) (ok_lf (ok_ALdn d_X4_now_104 rfl rfl)))))) (ok_nd (ok_nd (ok_nd (ok_lf (ok_GetR (by decide) (by decide) rfl d_X4_now_105 q154 rfl)) (ok_lf (ok_CaVN su_X0_fallsOut (by decide) rfl d_X4_now_108 q360 q314 z18 q2 q315 ⟨by decide +kernel, by decide +kernel, by decide +kernel⟩ ⟨by decide, by decide⟩ rfl))) (ok_nd (ok_lf (ok_IfEq d_X4_now_111 (by decide) rfl)) (ok_nd (ok_lf (ok_ICst d_X4_now_114 (by decide) rfl)) (ok_lf (ok_Go d_X4_now_115 (by decide)))))) (ok_nd (ok_nd (ok_lf (ok_ICst d_X4_now_118 (by decide) rfl)) (ok_nd (ok_lf (ok_IRet d_X4_now_119)) (ok_lf (ok_ALdn d_X4_now_120 rfl rfl)))) (ok_nd (ok_lf (ok_Ldc d_X4_now_121 q183 rfl)) (ok_nd (ok_lf (ok_CaV su_X4_tell (by decide) rfl d_X4_now_123 q184 q186 z0 q1 q187 ⟨by decide +kernel, by decide +kernel, by decide +kernel⟩ ⟨by decide, by decide⟩ rfl)) (ok_lf (ok_IRet d_X4_now_126)))))))
noncomputable def S_X4_now : Sem := lockS (inl P_X4_now 44 2) 0
theorem su_X4_now {l : Launch} {G : Gm} : SemU l G yX4_now (wsOf yX4_now cX4_now 2 (some .int)) 4 S_X4_now := sem_lock (sem_inl 44 (by decide +kernel) rfl ok_X4_now)
theorem d_X4_ahead_0 : decode cX4_ahead 0 = .ok (.iload_n 2, 1) := by decide +kernel
theorem d_X4_ahead_1 : decode cX4_ahead 1 = .ok (.iconst 1, 1) := by decide +kernel
theorem d_X4_ahead_2 : decode cX4_ahead 2 = .ok (.iconst 4, 1) := by decide +kernel
theorem d_X4_ahead_3 : decode cX4_ahead 3 = .ok (.invokestatic 44, 3) := by decide +kernel
theorem d_X4_ahead_6 : decode cX4_ahead 6 = .ok (.ifCond .ne 9, 3) := by decide +kernel
theorem d_X4_ahead_9 : decode cX4_ahead 9 = .ok (.iload_n 2, 1) := by decide +kernel
theorem d_X4_ahead_10 : decode cX4_ahead 10 = .ok (.bipush 6, 2) := by decide +kernel
theorem d_X4_ahead_12 : decode cX4_ahead 12 = .ok (.if_icmp .ne 7, 3) := by decide +kernel
theorem d_X4_ahead_15 : decode cX4_ahead 15 = .ok (.iconst 1, 1) := by decide +kernel
theorem d_X4_ahead_16 : decode cX4_ahead 16 = .ok (.goto 4, 3) := by decide +kernel
theorem d_X4_ahead_19 : decode cX4_ahead 19 = .ok (.iconst 0, 1) := by decide +kernel
theorem d_X4_ahead_20 : decode cX4_ahead 20 = .ok (.istore 4, 2) := by decide +kernel
theorem d_X4_ahead_22 : decode cX4_ahead 22 = .ok (.aload_n 0, 1) := by decide +kernel
theorem d_X4_ahead_23 : decode cX4_ahead 23 = .ok (.getfield 12, 3) := by decide +kernel
theorem d_X4_ahead_26 : decode cX4_ahead 26 = .ok (.iload_n 1, 1) := by decide +kernel
theorem d_X4_ahead_27 : decode cX4_ahead 27 = .ok (.invokevirtual 82, 3) := by decide +kernel
theorem d_X4_ahead_30 : decode cX4_ahead 30 = .ok (.ifCond .eq 18, 3) := by decide +kernel
theorem d_X4_ahead_33 : decode cX4_ahead 33 = .ok (.iload 4, 2) := by decide +kernel
theorem d_X4_ahead_35 : decode cX4_ahead 35 = .ok (.ifCond .eq 13, 3) := by decide +kernel
theorem d_X4_ahead_38 : decode cX4_ahead 38 = .ok (.iload_n 3, 1) := by decide +kernel
theorem d_X4_ahead_39 : decode cX4_ahead 39 = .ok (.iconst 0, 1) := by decide +kernel
theorem d_X4_ahead_40 : decode cX4_ahead 40 = .ok (.bipush 100, 2) := by decide +kernel
theorem d_X4_ahead_42 : decode cX4_ahead 42 = .ok (.invokestatic 44, 3) := by decide +kernel
theorem d_X4_ahead_45 : decode cX4_ahead 45 = .ok (.ifCond .ne 10, 3) := by decide +kernel
theorem d_X4_ahead_48 : decode cX4_ahead 48 = .ok (.aload_n 0, 1) := by decide +kernel
theorem d_X4_ahead_49 : decode cX4_ahead 49 = .ok (.ldc 55, 2) := by decide +kernel
theorem d_X4_ahead_51 : decode cX4_ahead 51 = .ok (.invokevirtual 56, 3) := by decide +kernel
theorem d_X4_ahead_54 : decode cX4_ahead 54 = .ok (.ireturn, 1) := by decide +kernel
theorem d_X4_ahead_55 : decode cX4_ahead 55 = .ok (.aload_n 0, 1) := by decide +kernel
theorem d_X4_ahead_56 : decode cX4_ahead 56 = .ok (.getfield 16, 3) := by decide +kernel
theorem d_X4_ahead_59 : decode cX4_ahead 59 = .ok (.aload_n 0, 1) := by decide +kernel
theorem d_X4_ahead_60 : decode cX4_ahead 60 = .ok (.getfield 12, 3) := by decide +kernel
theorem d_X4_ahead_63 : decode cX4_ahead 63 = .ok (.invokevirtual 140, 3) := by decide +kernel
theorem d_X4_ahead_66 : decode cX4_ahead 66 = .ok (.iconst 0, 1) := by decide +kernel
theorem d_X4_ahead_67 : decode cX4_ahead 67 = .ok (.istore 5, 2) := by decide +kernel
theorem d_X4_ahead_69 : decode cX4_ahead 69 = .ok (.iload 5, 2) := by decide +kernel
theorem d_X4_ahead_71 : decode cX4_ahead 71 = .ok (.iload_n 3, 1) := by decide +kernel
theorem d_X4_ahead_72 : decode cX4_ahead 72 = .ok (.if_icmp .ge 16, 3) := by decide +kernel
theorem d_X4_ahead_75 : decode cX4_ahead 75 = .ok (.aload_n 0, 1) := by decide +kernel
theorem d_X4_ahead_76 : decode cX4_ahead 76 = .ok (.getfield 16, 3) := by decide +kernel
theorem d_X4_ahead_79 : decode cX4_ahead 79 = .ok (.invokevirtual 118, 3) := by decide +kernel
theorem d_X4_ahead_82 : decode cX4_ahead 82 = .ok (.iinc 5 1, 3) := by decide +kernel
theorem d_X4_ahead_85 : decode cX4_ahead 85 = .ok (.goto (-16), 3) := by decide +kernel
theorem d_X4_ahead_88 : decode cX4_ahead 88 = .ok (.aload_n 0, 1) := by decide +kernel
theorem d_X4_ahead_89 : decode cX4_ahead 89 = .ok (.getfield 16, 3) := by decide +kernel
theorem d_X4_ahead_92 : decode cX4_ahead 92 = .ok (.getfield 87, 3) := by decide +kernel
theorem d_X4_ahead_95 : decode cX4_ahead 95 = .ok (.iload_n 1, 1) := by decide +kernel
theorem d_X4_ahead_96 : decode cX4_ahead 96 = .ok (.aaload, 1) := by decide +kernel
theorem d_X4_ahead_97 : decode cX4_ahead 97 = .ok (.iload_n 2, 1) := by decide +kernel
theorem d_X4_ahead_98 : decode cX4_ahead 98 = .ok (.aload_n 0, 1) := by decide +kernel
theorem d_X4_ahead_99 : decode cX4_ahead 99 = .ok (.getfield 16, 3) := by decide +kernel
theorem d_X4_ahead_102 : decode cX4_ahead 102 = .ok (.getfield 52, 3) := by decide +kernel
theorem d_X4_ahead_105 : decode cX4_ahead 105 = .ok (.aload_n 0, 1) := by decide +kernel
theorem d_X4_ahead_106 : decode cX4_ahead 106 = .ok (.getfield 16, 3) := by decide +kernel
theorem d_X4_ahead_109 : decode cX4_ahead 109 = .ok (.getfield 91, 3) := by decide +kernel
theorem d_X4_ahead_112 : decode cX4_ahead 112 = .ok (.invokevirtual 94, 3) := by decide +kernel
theorem d_X4_ahead_115 : decode cX4_ahead 115 = .ok (.ireturn, 1) := by decide +kernel
noncomputable def P_X4_ahead : Nat → Op := fun pc => nd 55 pc (nd 26 pc (nd 12 pc (nd 3 pc (nd 1 pc (lf 0 pc (oILd 2 1)) (nd 2 pc (lf 1 pc (oCst 1 2)) (lf 2 pc (oCst 4 3)))) (nd 9 pc (nd 6 pc (lf 3 pc (oCaS 3 S_X4_isWithin 6)) (lf 6 pc (oIfEq 9 15))) (nd 10 pc (lf 9 pc (oILd 2 10)) (lf 10 pc (oCst 6 12))))) (nd 19 pc (nd 15 pc (lf 12 pc (oCpEq 15 19)) (nd 16 pc (lf 15 pc (oCst 1 16)) (lf 16 pc (oGo 20)))) (nd 22 pc (nd 20 pc (lf 19 pc (oCst 0 20)) (lf 20 pc (oISt 4 22))) (nd 23 pc (lf 22 pc (oALd 0 23)) (lf 23 pc (oGetR 4 0 26)))))) (nd 40 pc (nd 33 pc (nd 27 pc (lf 26 pc (oILd 1 27)) (nd 30 pc (lf 27 pc (oCaV 2 0 S_X0_has 30)) (lf 30 pc (oIfEq 48 33)))) (nd 38 pc (nd 35 pc (lf 33 pc (oILd 4 35)) (lf 35 pc (oIfEq 48 38))) (nd 39 pc (lf 38 pc (oILd 3 39)) (lf 39 pc (oCst 0 40))))) (nd 48 pc (nd 42 pc (lf 40 pc (oCst 100 42)) (nd 45 pc (lf 42 pc (oCaS 3 S_X4_isWithin 45)) (lf 45 pc (oIfEq 48 55)))) (nd 51 pc (nd 49 pc (lf 48 pc (oALd 0 49)) (lf 49 pc (oCst (-1000001) 51))) (nd 54 pc (lf 51 pc (oCaV 2 4 S_X4_tell 54)) (lf 54 pc (oIRet))))))) (nd 85 pc (nd 69 pc (nd 60 pc (nd 56 pc (lf 55 pc (oALd 0 56)) (nd 59 pc (lf 56 pc (oGetR 4 1 59)) (lf 59 pc (oALd 0 60)))) (nd 66 pc (nd 63 pc (lf 60 pc (oGetR 4 0 63)) (lf 63 pc (oCaV 2 0 S_X0_become 66))) (nd 67 pc (lf 66 pc (oCst 0 67)) (lf 67 pc (oISt 5 69))))) (nd 75 pc (nd 71 pc (lf 69 pc (lockO (oILd 5 71) 0)) (nd 72 pc (lf 71 pc (oILd 3 72)) (lf 72 pc (oCpLt 75 88)))) (nd 79 pc (nd 76 pc (lf 75 pc (oALd 0 76)) (lf 76 pc (oGetR 4 1 79))) (nd 82 pc (lf 79 pc (oCaV 1 0 S_X0_dropOnce 82)) (lf 82 pc (oInc 5 1 85)))))) (nd 98 pc (nd 92 pc (nd 88 pc (lf 85 pc (oGo 69)) (nd 89 pc (lf 88 pc (oALd 0 89)) (lf 89 pc (oGetR 4 1 92)))) (nd 96 pc (nd 95 pc (lf 92 pc (oGetR 0 8 95)) (lf 95 pc (oILd 1 96))) (nd 97 pc (lf 96 pc (oAAL 7 97)) (lf 97 pc (oILd 2 98))))) (nd 106 pc (nd 102 pc (nd 99 pc (lf 98 pc (oALd 0 99)) (lf 99 pc (oGetR 4 1 102))) (nd 105 pc (lf 102 pc (oGetI 0 1 105)) (lf 105 pc (oALd 0 106)))) (nd 112 pc (nd 109 pc (lf 106 pc (oGetR 4 1 109)) (lf 109 pc (oGetI 0 3 112))) (nd 115 pc (lf 112 pc (oCaV 4 1 S_X1_tells 115)) (lf 115 pc (oIRet)))))))
theorem ok_X4_ahead {l : Launch} {G : Gm} : ∀ pc, OkU (TXm l G (rmD 6) 6 cX4_ahead RX4) (RXm l G (rmD 6) 6 cX4_ahead RX4 (some .int)) pc (P_X4_ahead pc) := fun pc => ok_nd (ok_nd (ok_nd (ok_nd (ok_nd (ok_lf (ok_ILdn d_X4_ahead_0 rfl rfl)) (ok_nd (ok_lf (ok_ICst d_X4_ahead_1 (by decide) rfl)) (ok_lf (ok_ICst d_X4_ahead_2 (by decide) rfl)))) (ok_nd (ok_nd (ok_lf (ok_CaS su_X4_isWithin d_X4_ahead_3 q180 q181 q1 q182 ⟨by decide +kernel, by decide +kernel, by decide +kernel⟩ ⟨by decide, by decide⟩ rfl)) (ok_lf (ok_IfNe d_X4_ahead_6 (by decide) rfl))) (ok_nd (ok_lf (ok_ILdn d_X4_ahead_9 rfl rfl)) (ok_lf (ok_BCst d_X4_ahead_10 (by decide) rfl))))) (ok_nd (ok_nd (ok_lf (ok_CpNe d_X4_ahead_12 (by decide) rfl)) (ok_nd (ok_lf (ok_ICst d_X4_ahead_15 (by decide) rfl)) (ok_lf (ok_Go d_X4_ahead_16 (by decide))))) (ok_nd (ok_nd (ok_lf (ok_ICst d_X4_ahead_19 (by decide) rfl)) (ok_lf (ok_ISt d_X4_ahead_20 rfl))) (ok_nd (ok_lf (ok_ALdn d_X4_ahead_22 rfl rfl)) (ok_lf (ok_GetR (by decide) (by decide) rfl d_X4_ahead_23 q154 rfl)))))) (ok_nd (ok_nd (ok_nd (ok_lf (ok_ILdn d_X4_ahead_26 rfl rfl)) (ok_nd (ok_lf (ok_CaVN su_X0_has (by decide) rfl d_X4_ahead_27 q227 q229 z4 q2 q230 ⟨by decide +kernel, by decide +kernel, by decide +kernel⟩ ⟨by decide, by decide⟩ rfl)) (ok_lf (ok_IfEq d_X4_ahead_30 (by decide) rfl)))) (ok_nd (ok_nd (ok_lf (ok_ILd d_X4_ahead_33 rfl)) (ok_lf (ok_IfEq d_X4_ahead_35 (by decide) rfl))) (ok_nd (ok_lf (ok_ILdn d_X4_ahead_38 rfl rfl)) (ok_lf (ok_ICst d_X4_ahead_39 (by decide) rfl))))) (ok_nd (ok_nd (ok_lf (ok_BCst d_X4_ahead_40 (by decide) rfl)) (ok_nd (ok_lf (ok_CaS su_X4_isWithin d_X4_ahead_42 q180 q181 q1 q182 ⟨by decide +kernel, by decide +kernel, by decide +kernel⟩ ⟨by decide, by decide⟩ rfl)) (ok_lf (ok_IfNe d_X4_ahead_45 (by decide) rfl)))) (ok_nd (ok_nd (ok_lf (ok_ALdn d_X4_ahead_48 rfl rfl)) (ok_lf (ok_Ldc d_X4_ahead_49 q183 rfl))) (ok_nd (ok_lf (ok_CaV su_X4_tell (by decide) rfl d_X4_ahead_51 q184 q186 z0 q1 q187 ⟨by decide +kernel, by decide +kernel, by decide +kernel⟩ ⟨by decide, by decide⟩ rfl)) (ok_lf (ok_IRet d_X4_ahead_54))))))) (ok_nd (ok_nd (ok_nd (ok_nd (ok_lf (ok_ALdn d_X4_ahead_55 rfl rfl)) (ok_nd (ok_lf (ok_GetR (by decide) (by decide) rfl d_X4_ahead_56 q155 rfl)) (ok_lf (ok_ALdn d_X4_ahead_59 rfl rfl)))) (ok_nd (ok_nd (ok_lf (ok_GetR (by decide) (by decide) rfl d_X4_ahead_60 q154 rfl)) (ok_lf (ok_CaVN su_X0_become (by decide) rfl d_X4_ahead_63 q365 q367 z28 q2 q368 ⟨by decide +kernel, by decide +kernel, by decide +kernel⟩ ⟨by decide, by decide⟩ rfl))) (ok_nd (ok_lf (ok_ICst d_X4_ahead_66 (by decide) rfl)) (ok_lf (ok_ISt d_X4_ahead_67 rfl))))) (ok_nd (ok_nd (ok_lf (ok_lk (ok_ILd d_X4_ahead_69 rfl))) (ok_nd (ok_lf (ok_ILdn d_X4_ahead_71 rfl rfl)) (ok_lf (ok_CpGe d_X4_ahead_72 (by decide) rfl)))) (ok_nd (ok_nd (ok_lf (ok_ALdn d_X4_ahead_75 rfl rfl)) (ok_lf (ok_GetR (by decide) (by decide) rfl d_X4_ahead_76 q155 rfl))) (ok_nd (ok_lf (ok_CaVN su_X0_dropOnce (by decide) rfl d_X4_ahead_79 q308 q310 z17 q2 q311 ⟨by decide +kernel, by decide +kernel, by decide +kernel⟩ ⟨by decide, by decide⟩ rfl)) (ok_lf (ok_Inc d_X4_ahead_82 (by decide) rfl)))))) (ok_nd (ok_nd (ok_nd (ok_lf (ok_Go d_X4_ahead_85 (by decide))) (ok_nd (ok_lf (ok_ALdn d_X4_ahead_88 rfl rfl)) (ok_lf (ok_GetR (by decide) (by decide) rfl d_X4_ahead_89 q155 rfl)))) (ok_nd (ok_nd (ok_lf (ok_GetRN (by decide) (by decide) rfl d_X4_ahead_92 q88 rfl)) (ok_lf (ok_ILdn d_X4_ahead_95 rfl rfl))) (ok_nd (ok_lf (ok_AAL (by decide) (by decide) d_X4_ahead_96 rfl)) (ok_lf (ok_ILdn d_X4_ahead_97 rfl rfl))))) (ok_nd (ok_nd (ok_nd (ok_lf (ok_ALdn d_X4_ahead_98 rfl rfl)) (ok_lf (ok_GetR (by decide) (by decide) rfl d_X4_ahead_99 q155 rfl))) (ok_nd (ok_lf (ok_GetIN (by decide) (by decide) rfl d_X4_ahead_102 q71 rfl)) (ok_lf (ok_ALdn d_X4_ahead_105 rfl rfl)))) (ok_nd (ok_nd (ok_lf (ok_GetR (by decide) (by decide) rfl d_X4_ahead_106 q155 rfl)) (ok_lf (ok_GetIN (by decide) (by decide) rfl d_X4_ahead_109 q76 rfl))) (ok_nd (ok_lf (ok_CaVN su_X1_tells (by decide) rfl d_X4_ahead_112 q231 q233 z5 q3 q234 ⟨by decide +kernel, by decide +kernel, by decide +kernel⟩ ⟨by decide, by decide⟩ rfl)) (ok_lf (ok_IRet d_X4_ahead_115)))))))
noncomputable def S_X4_ahead : Sem := lockS (inl P_X4_ahead 30000 6) 0
theorem su_X4_ahead {l : Launch} {G : Gm} : SemU l G yX4_ahead (wsOf yX4_ahead cX4_ahead 6 (some .int)) 6 S_X4_ahead := sem_lock (sem_inl 30000 (by decide +kernel) rfl ok_X4_ahead)
theorem d_X4_dropsToReach_0 : decode cX4_dropsToReach 0 = .ok (.aload_n 0, 1) := by decide +kernel
theorem d_X4_dropsToReach_1 : decode cX4_dropsToReach 1 = .ok (.getfield 12, 3) := by decide +kernel
theorem d_X4_dropsToReach_4 : decode cX4_dropsToReach 4 = .ok (.iload_n 1, 1) := by decide +kernel
theorem d_X4_dropsToReach_5 : decode cX4_dropsToReach 5 = .ok (.invokevirtual 82, 3) := by decide +kernel
theorem d_X4_dropsToReach_8 : decode cX4_dropsToReach 8 = .ok (.ifCond .eq 14, 3) := by decide +kernel
theorem d_X4_dropsToReach_11 : decode cX4_dropsToReach 11 = .ok (.iload_n 3, 1) := by decide +kernel
theorem d_X4_dropsToReach_12 : decode cX4_dropsToReach 12 = .ok (.iconst 0, 1) := by decide +kernel
theorem d_X4_dropsToReach_13 : decode cX4_dropsToReach 13 = .ok (.sipush 9999, 3) := by decide +kernel
theorem d_X4_dropsToReach_16 : decode cX4_dropsToReach 16 = .ok (.invokestatic 44, 3) := by decide +kernel
theorem d_X4_dropsToReach_19 : decode cX4_dropsToReach 19 = .ok (.ifCond .ne 10, 3) := by decide +kernel
theorem d_X4_dropsToReach_22 : decode cX4_dropsToReach 22 = .ok (.aload_n 0, 1) := by decide +kernel
theorem d_X4_dropsToReach_23 : decode cX4_dropsToReach 23 = .ok (.ldc 55, 2) := by decide +kernel
theorem d_X4_dropsToReach_25 : decode cX4_dropsToReach 25 = .ok (.invokevirtual 56, 3) := by decide +kernel
theorem d_X4_dropsToReach_28 : decode cX4_dropsToReach 28 = .ok (.ireturn, 1) := by decide +kernel
theorem d_X4_dropsToReach_29 : decode cX4_dropsToReach 29 = .ok (.aload_n 0, 1) := by decide +kernel
theorem d_X4_dropsToReach_30 : decode cX4_dropsToReach 30 = .ok (.getfield 16, 3) := by decide +kernel
theorem d_X4_dropsToReach_33 : decode cX4_dropsToReach 33 = .ok (.aload_n 0, 1) := by decide +kernel
theorem d_X4_dropsToReach_34 : decode cX4_dropsToReach 34 = .ok (.getfield 12, 3) := by decide +kernel
theorem d_X4_dropsToReach_37 : decode cX4_dropsToReach 37 = .ok (.invokevirtual 140, 3) := by decide +kernel
theorem d_X4_dropsToReach_40 : decode cX4_dropsToReach 40 = .ok (.iconst 0, 1) := by decide +kernel
theorem d_X4_dropsToReach_41 : decode cX4_dropsToReach 41 = .ok (.istore 4, 2) := by decide +kernel
theorem d_X4_dropsToReach_43 : decode cX4_dropsToReach 43 = .ok (.iload 4, 2) := by decide +kernel
theorem d_X4_dropsToReach_45 : decode cX4_dropsToReach 45 = .ok (.sipush 200, 3) := by decide +kernel
theorem d_X4_dropsToReach_48 : decode cX4_dropsToReach 48 = .ok (.if_icmp .gt 50, 3) := by decide +kernel
theorem d_X4_dropsToReach_51 : decode cX4_dropsToReach 51 = .ok (.aload_n 0, 1) := by decide +kernel
theorem d_X4_dropsToReach_52 : decode cX4_dropsToReach 52 = .ok (.getfield 16, 3) := by decide +kernel
theorem d_X4_dropsToReach_55 : decode cX4_dropsToReach 55 = .ok (.getfield 87, 3) := by decide +kernel
theorem d_X4_dropsToReach_58 : decode cX4_dropsToReach 58 = .ok (.iload_n 1, 1) := by decide +kernel
theorem d_X4_dropsToReach_59 : decode cX4_dropsToReach 59 = .ok (.aaload, 1) := by decide +kernel
theorem d_X4_dropsToReach_60 : decode cX4_dropsToReach 60 = .ok (.iload_n 2, 1) := by decide +kernel
theorem d_X4_dropsToReach_61 : decode cX4_dropsToReach 61 = .ok (.aload_n 0, 1) := by decide +kernel
theorem d_X4_dropsToReach_62 : decode cX4_dropsToReach 62 = .ok (.getfield 16, 3) := by decide +kernel
theorem d_X4_dropsToReach_65 : decode cX4_dropsToReach 65 = .ok (.getfield 52, 3) := by decide +kernel
theorem d_X4_dropsToReach_68 : decode cX4_dropsToReach 68 = .ok (.aload_n 0, 1) := by decide +kernel
theorem d_X4_dropsToReach_69 : decode cX4_dropsToReach 69 = .ok (.getfield 16, 3) := by decide +kernel
theorem d_X4_dropsToReach_72 : decode cX4_dropsToReach 72 = .ok (.getfield 91, 3) := by decide +kernel
theorem d_X4_dropsToReach_75 : decode cX4_dropsToReach 75 = .ok (.invokevirtual 94, 3) := by decide +kernel
theorem d_X4_dropsToReach_78 : decode cX4_dropsToReach 78 = .ok (.iload_n 3, 1) := by decide +kernel
theorem d_X4_dropsToReach_79 : decode cX4_dropsToReach 79 = .ok (.if_icmp .lt 6, 3) := by decide +kernel
theorem d_X4_dropsToReach_82 : decode cX4_dropsToReach 82 = .ok (.iload 4, 2) := by decide +kernel
theorem d_X4_dropsToReach_84 : decode cX4_dropsToReach 84 = .ok (.ireturn, 1) := by decide +kernel
theorem d_X4_dropsToReach_85 : decode cX4_dropsToReach 85 = .ok (.aload_n 0, 1) := by decide +kernel
theorem d_X4_dropsToReach_86 : decode cX4_dropsToReach 86 = .ok (.getfield 16, 3) := by decide +kernel
theorem d_X4_dropsToReach_89 : decode cX4_dropsToReach 89 = .ok (.invokevirtual 118, 3) := by decide +kernel
theorem d_X4_dropsToReach_92 : decode cX4_dropsToReach 92 = .ok (.iinc 4 1, 3) := by decide +kernel
theorem d_X4_dropsToReach_95 : decode cX4_dropsToReach 95 = .ok (.goto (-52), 3) := by decide +kernel
theorem d_X4_dropsToReach_98 : decode cX4_dropsToReach 98 = .ok (.aload_n 0, 1) := by decide +kernel
theorem d_X4_dropsToReach_99 : decode cX4_dropsToReach 99 = .ok (.ldc 115, 2) := by decide +kernel
theorem d_X4_dropsToReach_101 : decode cX4_dropsToReach 101 = .ok (.invokevirtual 56, 3) := by decide +kernel
theorem d_X4_dropsToReach_104 : decode cX4_dropsToReach 104 = .ok (.ireturn, 1) := by decide +kernel
noncomputable def P_X4_dropsToReach : Nat → Op := fun pc => nd 52 pc (nd 25 pc (nd 12 pc (nd 5 pc (nd 1 pc (lf 0 pc (oALd 0 1)) (nd 4 pc (lf 1 pc (oGetR 4 0 4)) (lf 4 pc (oILd 1 5)))) (nd 8 pc (lf 5 pc (oCaV 2 0 S_X0_has 8)) (nd 11 pc (lf 8 pc (oIfEq 22 11)) (lf 11 pc (oILd 3 12))))) (nd 19 pc (nd 13 pc (lf 12 pc (oCst 0 13)) (nd 16 pc (lf 13 pc (oCst 9999 16)) (lf 16 pc (oCaS 3 S_X4_isWithin 19)))) (nd 22 pc (lf 19 pc (oIfEq 22 29)) (nd 23 pc (lf 22 pc (oALd 0 23)) (lf 23 pc (oCst (-1000001) 25)))))) (nd 37 pc (nd 30 pc (nd 28 pc (lf 25 pc (oCaV 2 4 S_X4_tell 28)) (nd 29 pc (lf 28 pc (oIRet)) (lf 29 pc (oALd 0 30)))) (nd 33 pc (lf 30 pc (oGetR 4 1 33)) (nd 34 pc (lf 33 pc (oALd 0 34)) (lf 34 pc (oGetR 4 0 37))))) (nd 43 pc (nd 40 pc (lf 37 pc (oCaV 2 0 S_X0_become 40)) (nd 41 pc (lf 40 pc (oCst 0 41)) (lf 41 pc (oISt 4 43)))) (nd 48 pc (nd 45 pc (lf 43 pc (lockO (oILd 4 45) 0)) (lf 45 pc (oCst 200 48))) (nd 51 pc (lf 48 pc (oCpGt 98 51)) (lf 51 pc (oALd 0 52))))))) (nd 78 pc (nd 62 pc (nd 59 pc (nd 55 pc (lf 52 pc (oGetR 4 1 55)) (nd 58 pc (lf 55 pc (oGetR 0 8 58)) (lf 58 pc (oILd 1 59)))) (nd 60 pc (lf 59 pc (oAAL 7 60)) (nd 61 pc (lf 60 pc (oILd 2 61)) (lf 61 pc (oALd 0 62))))) (nd 69 pc (nd 65 pc (lf 62 pc (oGetR 4 1 65)) (nd 68 pc (lf 65 pc (oGetI 0 1 68)) (lf 68 pc (oALd 0 69)))) (nd 72 pc (lf 69 pc (oGetR 4 1 72)) (nd 75 pc (lf 72 pc (oGetI 0 3 75)) (lf 75 pc (oCaV 4 1 S_X1_tells 78)))))) (nd 89 pc (nd 84 pc (nd 79 pc (lf 78 pc (oILd 3 79)) (nd 82 pc (lf 79 pc (oCpLt 85 82)) (lf 82 pc (oILd 4 84)))) (nd 85 pc (lf 84 pc (oIRet)) (nd 86 pc (lf 85 pc (oALd 0 86)) (lf 86 pc (oGetR 4 1 89))))) (nd 98 pc (nd 92 pc (lf 89 pc (oCaV 1 0 S_X0_dropOnce 92)) (nd 95 pc (lf 92 pc (oInc 4 1 95)) (lf 95 pc (oGo 43)))) (nd 101 pc (nd 99 pc (lf 98 pc (oALd 0 99)) (lf 99 pc (oCst (-1000004) 101))) (nd 104 pc (lf 101 pc (oCaV 2 4 S_X4_tell 104)) (lf 104 pc (oIRet)))))))
theorem ok_X4_dropsToReach {l : Launch} {G : Gm} : ∀ pc, OkU (TXm l G (rmD 6) 5 cX4_dropsToReach RX4) (RXm l G (rmD 6) 5 cX4_dropsToReach RX4 (some .int)) pc (P_X4_dropsToReach pc) := fun pc => ok_nd (ok_nd (ok_nd (ok_nd (ok_nd (ok_lf (ok_ALdn d_X4_dropsToReach_0 rfl rfl)) (ok_nd (ok_lf (ok_GetR (by decide) (by decide) rfl d_X4_dropsToReach_1 q154 rfl)) (ok_lf (ok_ILdn d_X4_dropsToReach_4 rfl rfl)))) (ok_nd (ok_lf (ok_CaVN su_X0_has (by decide) rfl d_X4_dropsToReach_5 q227 q229 z4 q2 q230 ⟨by decide +kernel, by decide +kernel, by decide +kernel⟩ ⟨by decide, by decide⟩ rfl)) (ok_nd (ok_lf (ok_IfEq d_X4_dropsToReach_8 (by decide) rfl)) (ok_lf (ok_ILdn d_X4_dropsToReach_11 rfl rfl))))) (ok_nd (ok_nd (ok_lf (ok_ICst d_X4_dropsToReach_12 (by decide) rfl)) (ok_nd (ok_lf (ok_SCst d_X4_dropsToReach_13 (by decide) rfl)) (ok_lf (ok_CaS su_X4_isWithin d_X4_dropsToReach_16 q180 q181 q1 q182 ⟨by decide +kernel, by decide +kernel, by decide +kernel⟩ ⟨by decide, by decide⟩ rfl)))) (ok_nd (ok_lf (ok_IfNe d_X4_dropsToReach_19 (by decide) rfl)) (ok_nd (ok_lf (ok_ALdn d_X4_dropsToReach_22 rfl rfl)) (ok_lf (ok_Ldc d_X4_dropsToReach_23 q183 rfl)))))) (ok_nd (ok_nd (ok_nd (ok_lf (ok_CaV su_X4_tell (by decide) rfl d_X4_dropsToReach_25 q184 q186 z0 q1 q187 ⟨by decide +kernel, by decide +kernel, by decide +kernel⟩ ⟨by decide, by decide⟩ rfl)) (ok_nd (ok_lf (ok_IRet d_X4_dropsToReach_28)) (ok_lf (ok_ALdn d_X4_dropsToReach_29 rfl rfl)))) (ok_nd (ok_lf (ok_GetR (by decide) (by decide) rfl d_X4_dropsToReach_30 q155 rfl)) (ok_nd (ok_lf (ok_ALdn d_X4_dropsToReach_33 rfl rfl)) (ok_lf (ok_GetR (by decide) (by decide) rfl d_X4_dropsToReach_34 q154 rfl))))) (ok_nd (ok_nd (ok_lf (ok_CaVN su_X0_become (by decide) rfl d_X4_dropsToReach_37 q365 q367 z28 q2 q368 ⟨by decide +kernel, by decide +kernel, by decide +kernel⟩ ⟨by decide, by decide⟩ rfl)) (ok_nd (ok_lf (ok_ICst d_X4_dropsToReach_40 (by decide) rfl)) (ok_lf (ok_ISt d_X4_dropsToReach_41 rfl)))) (ok_nd (ok_nd (ok_lf (ok_lk (ok_ILd d_X4_dropsToReach_43 rfl))) (ok_lf (ok_SCst d_X4_dropsToReach_45 (by decide) rfl))) (ok_nd (ok_lf (ok_CpGt d_X4_dropsToReach_48 (by decide) rfl)) (ok_lf (ok_ALdn d_X4_dropsToReach_51 rfl rfl))))))) (ok_nd (ok_nd (ok_nd (ok_nd (ok_lf (ok_GetR (by decide) (by decide) rfl d_X4_dropsToReach_52 q155 rfl)) (ok_nd (ok_lf (ok_GetRN (by decide) (by decide) rfl d_X4_dropsToReach_55 q88 rfl)) (ok_lf (ok_ILdn d_X4_dropsToReach_58 rfl rfl)))) (ok_nd (ok_lf (ok_AAL (by decide) (by decide) d_X4_dropsToReach_59 rfl)) (ok_nd (ok_lf (ok_ILdn d_X4_dropsToReach_60 rfl rfl)) (ok_lf (ok_ALdn d_X4_dropsToReach_61 rfl rfl))))) (ok_nd (ok_nd (ok_lf (ok_GetR (by decide) (by decide) rfl d_X4_dropsToReach_62 q155 rfl)) (ok_nd (ok_lf (ok_GetIN (by decide) (by decide) rfl d_X4_dropsToReach_65 q71 rfl)) (ok_lf (ok_ALdn d_X4_dropsToReach_68 rfl rfl)))) (ok_nd (ok_lf (ok_GetR (by decide) (by decide) rfl d_X4_dropsToReach_69 q155 rfl)) (ok_nd (ok_lf (ok_GetIN (by decide) (by decide) rfl d_X4_dropsToReach_72 q76 rfl)) (ok_lf (ok_CaVN su_X1_tells (by decide) rfl d_X4_dropsToReach_75 q231 q233 z5 q3 q234 ⟨by decide +kernel, by decide +kernel, by decide +kernel⟩ ⟨by decide, by decide⟩ rfl)))))) (ok_nd (ok_nd (ok_nd (ok_lf (ok_ILdn d_X4_dropsToReach_78 rfl rfl)) (ok_nd (ok_lf (ok_CpLt d_X4_dropsToReach_79 (by decide) rfl)) (ok_lf (ok_ILd d_X4_dropsToReach_82 rfl)))) (ok_nd (ok_lf (ok_IRet d_X4_dropsToReach_84)) (ok_nd (ok_lf (ok_ALdn d_X4_dropsToReach_85 rfl rfl)) (ok_lf (ok_GetR (by decide) (by decide) rfl d_X4_dropsToReach_86 q155 rfl))))) (ok_nd (ok_nd (ok_lf (ok_CaVN su_X0_dropOnce (by decide) rfl d_X4_dropsToReach_89 q308 q310 z17 q2 q311 ⟨by decide +kernel, by decide +kernel, by decide +kernel⟩ ⟨by decide, by decide⟩ rfl)) (ok_nd (ok_lf (ok_Inc d_X4_dropsToReach_92 (by decide) rfl)) (ok_lf (ok_Go d_X4_dropsToReach_95 (by decide))))) (ok_nd (ok_nd (ok_lf (ok_ALdn d_X4_dropsToReach_98 rfl rfl)) (ok_lf (ok_Ldc d_X4_dropsToReach_99 q301 rfl))) (ok_nd (ok_lf (ok_CaV su_X4_tell (by decide) rfl d_X4_dropsToReach_101 q184 q186 z0 q1 q187 ⟨by decide +kernel, by decide +kernel, by decide +kernel⟩ ⟨by decide, by decide⟩ rfl)) (ok_lf (ok_IRet d_X4_dropsToReach_104)))))))
noncomputable def S_X4_dropsToReach : Sem := lockS (inl P_X4_dropsToReach 30000 5) 0
theorem su_X4_dropsToReach {l : Launch} {G : Gm} : SemU l G yX4_dropsToReach (wsOf yX4_dropsToReach cX4_dropsToReach 5 (some .int)) 6 S_X4_dropsToReach := sem_lock (sem_inl 30000 (by decide +kernel) rfl ok_X4_dropsToReach)
theorem d_X4_wrong_0 : decode cX4_wrong 0 = .ok (.aload_n 0, 1) := by decide +kernel
theorem d_X4_wrong_1 : decode cX4_wrong 1 = .ok (.iload_n 1, 1) := by decide +kernel
theorem d_X4_wrong_2 : decode cX4_wrong 2 = .ok (.iconst 3, 1) := by decide +kernel
theorem d_X4_wrong_3 : decode cX4_wrong 3 = .ok (.iload_n 2, 1) := by decide +kernel
theorem d_X4_wrong_4 : decode cX4_wrong 4 = .ok (.invokevirtual 144, 3) := by decide +kernel
theorem d_X4_wrong_7 : decode cX4_wrong 7 = .ok (.ireturn, 1) := by decide +kernel
noncomputable def P_X4_wrong : Nat → Op := fun pc => nd 3 pc (nd 1 pc (lf 0 pc (oALd 0 1)) (nd 2 pc (lf 1 pc (oILd 1 2)) (lf 2 pc (oCst 3 3)))) (nd 4 pc (lf 3 pc (oILd 2 4)) (nd 7 pc (lf 4 pc (oCaV 4 4 S_X4_dropsToReach 7)) (lf 7 pc (oIRet))))
theorem ok_X4_wrong {l : Launch} {G : Gm} : ∀ pc, OkU (TXm l G (rmD 7) 3 cX4_wrong RX4) (RXm l G (rmD 7) 3 cX4_wrong RX4 (some .int)) pc (P_X4_wrong pc) := fun pc => ok_nd (ok_nd (ok_lf (ok_ALdn d_X4_wrong_0 rfl rfl)) (ok_nd (ok_lf (ok_ILdn d_X4_wrong_1 rfl rfl)) (ok_lf (ok_ICst d_X4_wrong_2 (by decide) rfl)))) (ok_nd (ok_lf (ok_ILdn d_X4_wrong_3 rfl rfl)) (ok_nd (ok_lf (ok_CaV su_X4_dropsToReach (by decide) rfl d_X4_wrong_4 q380 q382 z30 q1 q383 ⟨by decide +kernel, by decide +kernel, by decide +kernel⟩ ⟨by decide, by decide⟩ rfl)) (ok_lf (ok_IRet d_X4_wrong_7))))
noncomputable def S_X4_wrong : Sem := lockS (inl P_X4_wrong 8 3) 0
theorem su_X4_wrong {l : Launch} {G : Gm} : SemU l G yX4_wrong (wsOf yX4_wrong cX4_wrong 3 (some .int)) 7 S_X4_wrong := sem_lock (sem_inl 8 (by decide +kernel) rfl ok_X4_wrong)
theorem d_X4_right_0 : decode cX4_right 0 = .ok (.aload_n 0, 1) := by decide +kernel
theorem d_X4_right_1 : decode cX4_right 1 = .ok (.iload_n 1, 1) := by decide +kernel
theorem d_X4_right_2 : decode cX4_right 2 = .ok (.iconst 4, 1) := by decide +kernel
theorem d_X4_right_3 : decode cX4_right 3 = .ok (.iload_n 2, 1) := by decide +kernel
theorem d_X4_right_4 : decode cX4_right 4 = .ok (.invokevirtual 144, 3) := by decide +kernel
theorem d_X4_right_7 : decode cX4_right 7 = .ok (.ireturn, 1) := by decide +kernel
noncomputable def P_X4_right : Nat → Op := fun pc => nd 3 pc (nd 1 pc (lf 0 pc (oALd 0 1)) (nd 2 pc (lf 1 pc (oILd 1 2)) (lf 2 pc (oCst 4 3)))) (nd 4 pc (lf 3 pc (oILd 2 4)) (nd 7 pc (lf 4 pc (oCaV 4 4 S_X4_dropsToReach 7)) (lf 7 pc (oIRet))))
theorem ok_X4_right {l : Launch} {G : Gm} : ∀ pc, OkU (TXm l G (rmD 7) 3 cX4_right RX4) (RXm l G (rmD 7) 3 cX4_right RX4 (some .int)) pc (P_X4_right pc) := fun pc => ok_nd (ok_nd (ok_lf (ok_ALdn d_X4_right_0 rfl rfl)) (ok_nd (ok_lf (ok_ILdn d_X4_right_1 rfl rfl)) (ok_lf (ok_ICst d_X4_right_2 (by decide) rfl)))) (ok_nd (ok_lf (ok_ILdn d_X4_right_3 rfl rfl)) (ok_nd (ok_lf (ok_CaV su_X4_dropsToReach (by decide) rfl d_X4_right_4 q380 q382 z30 q1 q383 ⟨by decide +kernel, by decide +kernel, by decide +kernel⟩ ⟨by decide, by decide⟩ rfl)) (ok_lf (ok_IRet d_X4_right_7))))
noncomputable def S_X4_right : Sem := lockS (inl P_X4_right 8 3) 0
theorem su_X4_right {l : Launch} {G : Gm} : SemU l G yX4_right (wsOf yX4_right cX4_right 3 (some .int)) 7 S_X4_right := sem_lock (sem_inl 8 (by decide +kernel) rfl ok_X4_right)
theorem d_X4_stands_0 : decode cX4_stands 0 = .ok (.aload_n 0, 1) := by decide +kernel
theorem d_X4_stands_1 : decode cX4_stands 1 = .ok (.getfield 16, 3) := by decide +kernel
theorem d_X4_stands_4 : decode cX4_stands 4 = .ok (.aload_n 0, 1) := by decide +kernel
theorem d_X4_stands_5 : decode cX4_stands 5 = .ok (.getfield 12, 3) := by decide +kernel
theorem d_X4_stands_8 : decode cX4_stands 8 = .ok (.invokevirtual 140, 3) := by decide +kernel
theorem d_X4_stands_11 : decode cX4_stands 11 = .ok (.iconst 1, 1) := by decide +kernel
theorem d_X4_stands_12 : decode cX4_stands 12 = .ok (.istore_n 1, 1) := by decide +kernel
theorem d_X4_stands_13 : decode cX4_stands 13 = .ok (.iload_n 1, 1) := by decide +kernel
theorem d_X4_stands_14 : decode cX4_stands 14 = .ok (.sipush 200, 3) := by decide +kernel
theorem d_X4_stands_17 : decode cX4_stands 17 = .ok (.if_icmp .gt 35, 3) := by decide +kernel
theorem d_X4_stands_20 : decode cX4_stands 20 = .ok (.aload_n 0, 1) := by decide +kernel
theorem d_X4_stands_21 : decode cX4_stands 21 = .ok (.getfield 16, 3) := by decide +kernel
theorem d_X4_stands_24 : decode cX4_stands 24 = .ok (.invokevirtual 118, 3) := by decide +kernel
theorem d_X4_stands_27 : decode cX4_stands 27 = .ok (.aload_n 0, 1) := by decide +kernel
theorem d_X4_stands_28 : decode cX4_stands 28 = .ok (.getfield 16, 3) := by decide +kernel
theorem d_X4_stands_31 : decode cX4_stands 31 = .ok (.getfield 60, 3) := by decide +kernel
theorem d_X4_stands_34 : decode cX4_stands 34 = .ok (.aload_n 0, 1) := by decide +kernel
theorem d_X4_stands_35 : decode cX4_stands 35 = .ok (.getfield 12, 3) := by decide +kernel
theorem d_X4_stands_38 : decode cX4_stands 38 = .ok (.getfield 60, 3) := by decide +kernel
theorem d_X4_stands_41 : decode cX4_stands 41 = .ok (.if_icmp .le 5, 3) := by decide +kernel
theorem d_X4_stands_44 : decode cX4_stands 44 = .ok (.iload_n 1, 1) := by decide +kernel
theorem d_X4_stands_45 : decode cX4_stands 45 = .ok (.ireturn, 1) := by decide +kernel
theorem d_X4_stands_46 : decode cX4_stands 46 = .ok (.iinc 1 1, 3) := by decide +kernel
theorem d_X4_stands_49 : decode cX4_stands 49 = .ok (.goto (-36), 3) := by decide +kernel
theorem d_X4_stands_52 : decode cX4_stands 52 = .ok (.aload_n 0, 1) := by decide +kernel
theorem d_X4_stands_53 : decode cX4_stands 53 = .ok (.ldc 115, 2) := by decide +kernel
theorem d_X4_stands_55 : decode cX4_stands 55 = .ok (.invokevirtual 56, 3) := by decide +kernel
theorem d_X4_stands_58 : decode cX4_stands 58 = .ok (.ireturn, 1) := by decide +kernel
noncomputable def P_X4_stands : Nat → Op := fun pc => nd 28 pc (nd 13 pc (nd 5 pc (nd 1 pc (lf 0 pc (oALd 0 1)) (nd 4 pc (lf 1 pc (oGetR 4 1 4)) (lf 4 pc (oALd 0 5)))) (nd 11 pc (nd 8 pc (lf 5 pc (oGetR 4 0 8)) (lf 8 pc (oCaV 2 0 S_X0_become 11))) (nd 12 pc (lf 11 pc (oCst 1 12)) (lf 12 pc (oISt 1 13))))) (nd 20 pc (nd 14 pc (lf 13 pc (lockO (oILd 1 14) 0)) (nd 17 pc (lf 14 pc (oCst 200 17)) (lf 17 pc (oCpGt 52 20)))) (nd 24 pc (nd 21 pc (lf 20 pc (oALd 0 21)) (lf 21 pc (oGetR 4 1 24))) (nd 27 pc (lf 24 pc (oCaV 1 0 S_X0_dropOnce 27)) (lf 27 pc (oALd 0 28)))))) (nd 45 pc (nd 35 pc (nd 31 pc (lf 28 pc (oGetR 4 1 31)) (nd 34 pc (lf 31 pc (oGetI 0 2 34)) (lf 34 pc (oALd 0 35)))) (nd 41 pc (nd 38 pc (lf 35 pc (oGetR 4 0 38)) (lf 38 pc (oGetI 0 2 41))) (nd 44 pc (lf 41 pc (oCpGt 44 46)) (lf 44 pc (oILd 1 45))))) (nd 52 pc (nd 46 pc (lf 45 pc (oIRet)) (nd 49 pc (lf 46 pc (oInc 1 1 49)) (lf 49 pc (oGo 13)))) (nd 55 pc (nd 53 pc (lf 52 pc (oALd 0 53)) (lf 53 pc (oCst (-1000004) 55))) (nd 58 pc (lf 55 pc (oCaV 2 4 S_X4_tell 58)) (lf 58 pc (oIRet))))))
theorem ok_X4_stands {l : Launch} {G : Gm} : ∀ pc, OkU (TXm l G (rmD 6) 2 cX4_stands RX4) (RXm l G (rmD 6) 2 cX4_stands RX4 (some .int)) pc (P_X4_stands pc) := fun pc => ok_nd (ok_nd (ok_nd (ok_nd (ok_lf (ok_ALdn d_X4_stands_0 rfl rfl)) (ok_nd (ok_lf (ok_GetR (by decide) (by decide) rfl d_X4_stands_1 q155 rfl)) (ok_lf (ok_ALdn d_X4_stands_4 rfl rfl)))) (ok_nd (ok_nd (ok_lf (ok_GetR (by decide) (by decide) rfl d_X4_stands_5 q154 rfl)) (ok_lf (ok_CaVN su_X0_become (by decide) rfl d_X4_stands_8 q365 q367 z28 q2 q368 ⟨by decide +kernel, by decide +kernel, by decide +kernel⟩ ⟨by decide, by decide⟩ rfl))) (ok_nd (ok_lf (ok_ICst d_X4_stands_11 (by decide) rfl)) (ok_lf (ok_IStn d_X4_stands_12 rfl rfl))))) (ok_nd (ok_nd (ok_lf (ok_lk (ok_ILdn d_X4_stands_13 rfl rfl))) (ok_nd (ok_lf (ok_SCst d_X4_stands_14 (by decide) rfl)) (ok_lf (ok_CpGt d_X4_stands_17 (by decide) rfl)))) (ok_nd (ok_nd (ok_lf (ok_ALdn d_X4_stands_20 rfl rfl)) (ok_lf (ok_GetR (by decide) (by decide) rfl d_X4_stands_21 q155 rfl))) (ok_nd (ok_lf (ok_CaVN su_X0_dropOnce (by decide) rfl d_X4_stands_24 q308 q310 z17 q2 q311 ⟨by decide +kernel, by decide +kernel, by decide +kernel⟩ ⟨by decide, by decide⟩ rfl)) (ok_lf (ok_ALdn d_X4_stands_27 rfl rfl)))))) (ok_nd (ok_nd (ok_nd (ok_lf (ok_GetR (by decide) (by decide) rfl d_X4_stands_28 q155 rfl)) (ok_nd (ok_lf (ok_GetIN (by decide) (by decide) rfl d_X4_stands_31 q74 rfl)) (ok_lf (ok_ALdn d_X4_stands_34 rfl rfl)))) (ok_nd (ok_nd (ok_lf (ok_GetR (by decide) (by decide) rfl d_X4_stands_35 q154 rfl)) (ok_lf (ok_GetIN (by decide) (by decide) rfl d_X4_stands_38 q74 rfl))) (ok_nd (ok_lf (ok_CpLe d_X4_stands_41 (by decide) rfl)) (ok_lf (ok_ILdn d_X4_stands_44 rfl rfl))))) (ok_nd (ok_nd (ok_lf (ok_IRet d_X4_stands_45)) (ok_nd (ok_lf (ok_Inc d_X4_stands_46 (by decide) rfl)) (ok_lf (ok_Go d_X4_stands_49 (by decide))))) (ok_nd (ok_nd (ok_lf (ok_ALdn d_X4_stands_52 rfl rfl)) (ok_lf (ok_Ldc d_X4_stands_53 q301 rfl))) (ok_nd (ok_lf (ok_CaV su_X4_tell (by decide) rfl d_X4_stands_55 q184 q186 z0 q1 q187 ⟨by decide +kernel, by decide +kernel, by decide +kernel⟩ ⟨by decide, by decide⟩ rfl)) (ok_lf (ok_IRet d_X4_stands_58))))))
noncomputable def S_X4_stands : Sem := lockS (inl P_X4_stands 30000 2) 0
theorem su_X4_stands {l : Launch} {G : Gm} : SemU l G yX4_stands (wsOf yX4_stands cX4_stands 2 (some .int)) 6 S_X4_stands := sem_lock (sem_inl 30000 (by decide +kernel) rfl ok_X4_stands)
theorem d_X4_calm_0 : decode cX4_calm 0 = .ok (.aload_n 0, 1) := by decide +kernel
theorem d_X4_calm_1 : decode cX4_calm 1 = .ok (.getfield 12, 3) := by decide +kernel
theorem d_X4_calm_4 : decode cX4_calm 4 = .ok (.iload_n 1, 1) := by decide +kernel
theorem d_X4_calm_5 : decode cX4_calm 5 = .ok (.invokevirtual 82, 3) := by decide +kernel
theorem d_X4_calm_8 : decode cX4_calm 8 = .ok (.ifCond .eq 13, 3) := by decide +kernel
theorem d_X4_calm_11 : decode cX4_calm 11 = .ok (.iload_n 2, 1) := by decide +kernel
theorem d_X4_calm_12 : decode cX4_calm 12 = .ok (.iconst 0, 1) := by decide +kernel
theorem d_X4_calm_13 : decode cX4_calm 13 = .ok (.bipush 99, 2) := by decide +kernel
theorem d_X4_calm_15 : decode cX4_calm 15 = .ok (.invokestatic 44, 3) := by decide +kernel
theorem d_X4_calm_18 : decode cX4_calm 18 = .ok (.ifCond .ne 10, 3) := by decide +kernel
theorem d_X4_calm_21 : decode cX4_calm 21 = .ok (.aload_n 0, 1) := by decide +kernel
theorem d_X4_calm_22 : decode cX4_calm 22 = .ok (.ldc 55, 2) := by decide +kernel
theorem d_X4_calm_24 : decode cX4_calm 24 = .ok (.invokevirtual 56, 3) := by decide +kernel
theorem d_X4_calm_27 : decode cX4_calm 27 = .ok (.ireturn, 1) := by decide +kernel
theorem d_X4_calm_28 : decode cX4_calm 28 = .ok (.aload_n 0, 1) := by decide +kernel
theorem d_X4_calm_29 : decode cX4_calm 29 = .ok (.getfield 16, 3) := by decide +kernel
theorem d_X4_calm_32 : decode cX4_calm 32 = .ok (.aload_n 0, 1) := by decide +kernel
theorem d_X4_calm_33 : decode cX4_calm 33 = .ok (.getfield 12, 3) := by decide +kernel
theorem d_X4_calm_36 : decode cX4_calm 36 = .ok (.invokevirtual 140, 3) := by decide +kernel
theorem d_X4_calm_39 : decode cX4_calm 39 = .ok (.iconst 0, 1) := by decide +kernel
theorem d_X4_calm_40 : decode cX4_calm 40 = .ok (.istore_n 3, 1) := by decide +kernel
theorem d_X4_calm_41 : decode cX4_calm 41 = .ok (.iload_n 3, 1) := by decide +kernel
theorem d_X4_calm_42 : decode cX4_calm 42 = .ok (.sipush 200, 3) := by decide +kernel
theorem d_X4_calm_45 : decode cX4_calm 45 = .ok (.if_icmp .gt 34, 3) := by decide +kernel
theorem d_X4_calm_48 : decode cX4_calm 48 = .ok (.aload_n 0, 1) := by decide +kernel
theorem d_X4_calm_49 : decode cX4_calm 49 = .ok (.getfield 16, 3) := by decide +kernel
theorem d_X4_calm_52 : decode cX4_calm 52 = .ok (.getfield 87, 3) := by decide +kernel
theorem d_X4_calm_55 : decode cX4_calm 55 = .ok (.iload_n 1, 1) := by decide +kernel
theorem d_X4_calm_56 : decode cX4_calm 56 = .ok (.aaload, 1) := by decide +kernel
theorem d_X4_calm_57 : decode cX4_calm 57 = .ok (.getfield 147, 3) := by decide +kernel
theorem d_X4_calm_60 : decode cX4_calm 60 = .ok (.iload_n 2, 1) := by decide +kernel
theorem d_X4_calm_61 : decode cX4_calm 61 = .ok (.if_icmp .gt 5, 3) := by decide +kernel
theorem d_X4_calm_64 : decode cX4_calm 64 = .ok (.iload_n 3, 1) := by decide +kernel
theorem d_X4_calm_65 : decode cX4_calm 65 = .ok (.ireturn, 1) := by decide +kernel
theorem d_X4_calm_66 : decode cX4_calm 66 = .ok (.aload_n 0, 1) := by decide +kernel
theorem d_X4_calm_67 : decode cX4_calm 67 = .ok (.getfield 16, 3) := by decide +kernel
theorem d_X4_calm_70 : decode cX4_calm 70 = .ok (.invokevirtual 118, 3) := by decide +kernel
theorem d_X4_calm_73 : decode cX4_calm 73 = .ok (.iinc 3 1, 3) := by decide +kernel
theorem d_X4_calm_76 : decode cX4_calm 76 = .ok (.goto (-35), 3) := by decide +kernel
theorem d_X4_calm_79 : decode cX4_calm 79 = .ok (.aload_n 0, 1) := by decide +kernel
theorem d_X4_calm_80 : decode cX4_calm 80 = .ok (.ldc 115, 2) := by decide +kernel
theorem d_X4_calm_82 : decode cX4_calm 82 = .ok (.invokevirtual 56, 3) := by decide +kernel
theorem d_X4_calm_85 : decode cX4_calm 85 = .ok (.ireturn, 1) := by decide +kernel
noncomputable def P_X4_calm : Nat → Op := fun pc => nd 41 pc (nd 21 pc (nd 11 pc (nd 4 pc (nd 1 pc (lf 0 pc (oALd 0 1)) (lf 1 pc (oGetR 4 0 4))) (nd 5 pc (lf 4 pc (oILd 1 5)) (nd 8 pc (lf 5 pc (oCaV 2 0 S_X0_has 8)) (lf 8 pc (oIfEq 21 11))))) (nd 13 pc (nd 12 pc (lf 11 pc (oILd 2 12)) (lf 12 pc (oCst 0 13))) (nd 15 pc (lf 13 pc (oCst 99 15)) (nd 18 pc (lf 15 pc (oCaS 3 S_X4_isWithin 18)) (lf 18 pc (oIfEq 21 28)))))) (nd 29 pc (nd 24 pc (nd 22 pc (lf 21 pc (oALd 0 22)) (lf 22 pc (oCst (-1000001) 24))) (nd 27 pc (lf 24 pc (oCaV 2 4 S_X4_tell 27)) (nd 28 pc (lf 27 pc (oIRet)) (lf 28 pc (oALd 0 29))))) (nd 36 pc (nd 32 pc (lf 29 pc (oGetR 4 1 32)) (nd 33 pc (lf 32 pc (oALd 0 33)) (lf 33 pc (oGetR 4 0 36)))) (nd 39 pc (lf 36 pc (oCaV 2 0 S_X0_become 39)) (nd 40 pc (lf 39 pc (oCst 0 40)) (lf 40 pc (oISt 3 41))))))) (nd 64 pc (nd 52 pc (nd 45 pc (nd 42 pc (lf 41 pc (lockO (oILd 3 42) 0)) (lf 42 pc (oCst 200 45))) (nd 48 pc (lf 45 pc (oCpGt 79 48)) (nd 49 pc (lf 48 pc (oALd 0 49)) (lf 49 pc (oGetR 4 1 52))))) (nd 57 pc (nd 55 pc (lf 52 pc (oGetR 0 8 55)) (nd 56 pc (lf 55 pc (oILd 1 56)) (lf 56 pc (oAAL 7 57)))) (nd 60 pc (lf 57 pc (oGetI 1 2 60)) (nd 61 pc (lf 60 pc (oILd 2 61)) (lf 61 pc (oCpGt 66 64)))))) (nd 73 pc (nd 66 pc (nd 65 pc (lf 64 pc (oILd 3 65)) (lf 65 pc (oIRet))) (nd 67 pc (lf 66 pc (oALd 0 67)) (nd 70 pc (lf 67 pc (oGetR 4 1 70)) (lf 70 pc (oCaV 1 0 S_X0_dropOnce 73))))) (nd 80 pc (nd 76 pc (lf 73 pc (oInc 3 1 76)) (nd 79 pc (lf 76 pc (oGo 41)) (lf 79 pc (oALd 0 80)))) (nd 82 pc (lf 80 pc (oCst (-1000004) 82)) (nd 85 pc (lf 82 pc (oCaV 2 4 S_X4_tell 85)) (lf 85 pc (oIRet)))))))
theorem ok_X4_calm {l : Launch} {G : Gm} : ∀ pc, OkU (TXm l G (rmD 6) 4 cX4_calm RX4) (RXm l G (rmD 6) 4 cX4_calm RX4 (some .int)) pc (P_X4_calm pc) := fun pc => ok_nd (ok_nd (ok_nd (ok_nd (ok_nd (ok_lf (ok_ALdn d_X4_calm_0 rfl rfl)) (ok_lf (ok_GetR (by decide) (by decide) rfl d_X4_calm_1 q154 rfl))) (ok_nd (ok_lf (ok_ILdn d_X4_calm_4 rfl rfl)) (ok_nd (ok_lf (ok_CaVN su_X0_has (by decide) rfl d_X4_calm_5 q227 q229 z4 q2 q230 ⟨by decide +kernel, by decide +kernel, by decide +kernel⟩ ⟨by decide, by decide⟩ rfl)) (ok_lf (ok_IfEq d_X4_calm_8 (by decide) rfl))))) (ok_nd (ok_nd (ok_lf (ok_ILdn d_X4_calm_11 rfl rfl)) (ok_lf (ok_ICst d_X4_calm_12 (by decide) rfl))) (ok_nd (ok_lf (ok_BCst d_X4_calm_13 (by decide) rfl)) (ok_nd (ok_lf (ok_CaS su_X4_isWithin d_X4_calm_15 q180 q181 q1 q182 ⟨by decide +kernel, by decide +kernel, by decide +kernel⟩ ⟨by decide, by decide⟩ rfl)) (ok_lf (ok_IfNe d_X4_calm_18 (by decide) rfl)))))) (ok_nd (ok_nd (ok_nd (ok_lf (ok_ALdn d_X4_calm_21 rfl rfl)) (ok_lf (ok_Ldc d_X4_calm_22 q183 rfl))) (ok_nd (ok_lf (ok_CaV su_X4_tell (by decide) rfl d_X4_calm_24 q184 q186 z0 q1 q187 ⟨by decide +kernel, by decide +kernel, by decide +kernel⟩ ⟨by decide, by decide⟩ rfl)) (ok_nd (ok_lf (ok_IRet d_X4_calm_27)) (ok_lf (ok_ALdn d_X4_calm_28 rfl rfl))))) (ok_nd (ok_nd (ok_lf (ok_GetR (by decide) (by decide) rfl d_X4_calm_29 q155 rfl)) (ok_nd (ok_lf (ok_ALdn d_X4_calm_32 rfl rfl)) (ok_lf (ok_GetR (by decide) (by decide) rfl d_X4_calm_33 q154 rfl)))) (ok_nd (ok_lf (ok_CaVN su_X0_become (by decide) rfl d_X4_calm_36 q365 q367 z28 q2 q368 ⟨by decide +kernel, by decide +kernel, by decide +kernel⟩ ⟨by decide, by decide⟩ rfl)) (ok_nd (ok_lf (ok_ICst d_X4_calm_39 (by decide) rfl)) (ok_lf (ok_IStn d_X4_calm_40 rfl rfl))))))) (ok_nd (ok_nd (ok_nd (ok_nd (ok_lf (ok_lk (ok_ILdn d_X4_calm_41 rfl rfl))) (ok_lf (ok_SCst d_X4_calm_42 (by decide) rfl))) (ok_nd (ok_lf (ok_CpGt d_X4_calm_45 (by decide) rfl)) (ok_nd (ok_lf (ok_ALdn d_X4_calm_48 rfl rfl)) (ok_lf (ok_GetR (by decide) (by decide) rfl d_X4_calm_49 q155 rfl))))) (ok_nd (ok_nd (ok_lf (ok_GetRN (by decide) (by decide) rfl d_X4_calm_52 q88 rfl)) (ok_nd (ok_lf (ok_ILdn d_X4_calm_55 rfl rfl)) (ok_lf (ok_AAL (by decide) (by decide) d_X4_calm_56 rfl)))) (ok_nd (ok_lf (ok_GetIN (by decide) (by decide) rfl d_X4_calm_57 q43 rfl)) (ok_nd (ok_lf (ok_ILdn d_X4_calm_60 rfl rfl)) (ok_lf (ok_CpGt d_X4_calm_61 (by decide) rfl)))))) (ok_nd (ok_nd (ok_nd (ok_lf (ok_ILdn d_X4_calm_64 rfl rfl)) (ok_lf (ok_IRet d_X4_calm_65))) (ok_nd (ok_lf (ok_ALdn d_X4_calm_66 rfl rfl)) (ok_nd (ok_lf (ok_GetR (by decide) (by decide) rfl d_X4_calm_67 q155 rfl)) (ok_lf (ok_CaVN su_X0_dropOnce (by decide) rfl d_X4_calm_70 q308 q310 z17 q2 q311 ⟨by decide +kernel, by decide +kernel, by decide +kernel⟩ ⟨by decide, by decide⟩ rfl))))) (ok_nd (ok_nd (ok_lf (ok_Inc d_X4_calm_73 (by decide) rfl)) (ok_nd (ok_lf (ok_Go d_X4_calm_76 (by decide))) (ok_lf (ok_ALdn d_X4_calm_79 rfl rfl)))) (ok_nd (ok_lf (ok_Ldc d_X4_calm_80 q301 rfl)) (ok_nd (ok_lf (ok_CaV su_X4_tell (by decide) rfl d_X4_calm_82 q184 q186 z0 q1 q187 ⟨by decide +kernel, by decide +kernel, by decide +kernel⟩ ⟨by decide, by decide⟩ rfl)) (ok_lf (ok_IRet d_X4_calm_85)))))))
noncomputable def S_X4_calm : Sem := lockS (inl P_X4_calm 30000 4) 0
theorem su_X4_calm {l : Launch} {G : Gm} : SemU l G yX4_calm (wsOf yX4_calm cX4_calm 4 (some .int)) 6 S_X4_calm := sem_lock (sem_inl 30000 (by decide +kernel) rfl ok_X4_calm)
theorem d_X4_trialLeavesWrong_0 : decode cX4_trialLeavesWrong 0 = .ok (.aload_n 0, 1) := by decide +kernel
theorem d_X4_trialLeavesWrong_1 : decode cX4_trialLeavesWrong 1 = .ok (.getfield 16, 3) := by decide +kernel
theorem d_X4_trialLeavesWrong_4 : decode cX4_trialLeavesWrong 4 = .ok (.getfield 87, 3) := by decide +kernel
theorem d_X4_trialLeavesWrong_7 : decode cX4_trialLeavesWrong 7 = .ok (.iload_n 1, 1) := by decide +kernel
theorem d_X4_trialLeavesWrong_8 : decode cX4_trialLeavesWrong 8 = .ok (.aaload, 1) := by decide +kernel
theorem d_X4_trialLeavesWrong_9 : decode cX4_trialLeavesWrong 9 = .ok (.astore_n 3, 1) := by decide +kernel
theorem d_X4_trialLeavesWrong_10 : decode cX4_trialLeavesWrong 10 = .ok (.aload_n 3, 1) := by decide +kernel
theorem d_X4_trialLeavesWrong_11 : decode cX4_trialLeavesWrong 11 = .ok (.getfield 236, 3) := by decide +kernel
theorem d_X4_trialLeavesWrong_14 : decode cX4_trialLeavesWrong 14 = .ok (.istore 4, 2) := by decide +kernel
theorem d_X4_trialLeavesWrong_16 : decode cX4_trialLeavesWrong 16 = .ok (.iconst 0, 1) := by decide +kernel
theorem d_X4_trialLeavesWrong_17 : decode cX4_trialLeavesWrong 17 = .ok (.istore 5, 2) := by decide +kernel
theorem d_X4_trialLeavesWrong_19 : decode cX4_trialLeavesWrong 19 = .ok (.iload 5, 2) := by decide +kernel
theorem d_X4_trialLeavesWrong_21 : decode cX4_trialLeavesWrong 21 = .ok (.iload_n 2, 1) := by decide +kernel
theorem d_X4_trialLeavesWrong_22 : decode cX4_trialLeavesWrong 22 = .ok (.if_icmp .ge 25, 3) := by decide +kernel
theorem d_X4_trialLeavesWrong_25 : decode cX4_trialLeavesWrong 25 = .ok (.aload_n 3, 1) := by decide +kernel
theorem d_X4_trialLeavesWrong_26 : decode cX4_trialLeavesWrong 26 = .ok (.getfield 236, 3) := by decide +kernel
theorem d_X4_trialLeavesWrong_29 : decode cX4_trialLeavesWrong 29 = .ok (.iload 4, 2) := by decide +kernel
theorem d_X4_trialLeavesWrong_31 : decode cX4_trialLeavesWrong 31 = .ok (.if_icmp .ne 16, 3) := by decide +kernel
theorem d_X4_trialLeavesWrong_34 : decode cX4_trialLeavesWrong 34 = .ok (.aload_n 0, 1) := by decide +kernel
theorem d_X4_trialLeavesWrong_35 : decode cX4_trialLeavesWrong 35 = .ok (.getfield 16, 3) := by decide +kernel
theorem d_X4_trialLeavesWrong_38 : decode cX4_trialLeavesWrong 38 = .ok (.invokevirtual 118, 3) := by decide +kernel
theorem d_X4_trialLeavesWrong_41 : decode cX4_trialLeavesWrong 41 = .ok (.iinc 5 1, 3) := by decide +kernel
theorem d_X4_trialLeavesWrong_44 : decode cX4_trialLeavesWrong 44 = .ok (.goto (-25), 3) := by decide +kernel
theorem d_X4_trialLeavesWrong_47 : decode cX4_trialLeavesWrong 47 = .ok (.aload_n 3, 1) := by decide +kernel
theorem d_X4_trialLeavesWrong_48 : decode cX4_trialLeavesWrong 48 = .ok (.getfield 236, 3) := by decide +kernel
theorem d_X4_trialLeavesWrong_51 : decode cX4_trialLeavesWrong 51 = .ok (.iload 4, 2) := by decide +kernel
theorem d_X4_trialLeavesWrong_53 : decode cX4_trialLeavesWrong 53 = .ok (.if_icmp .ne 7, 3) := by decide +kernel
theorem d_X4_trialLeavesWrong_56 : decode cX4_trialLeavesWrong 56 = .ok (.iconst 1, 1) := by decide +kernel
theorem d_X4_trialLeavesWrong_57 : decode cX4_trialLeavesWrong 57 = .ok (.goto 4, 3) := by decide +kernel
theorem d_X4_trialLeavesWrong_60 : decode cX4_trialLeavesWrong 60 = .ok (.iconst 0, 1) := by decide +kernel
theorem d_X4_trialLeavesWrong_61 : decode cX4_trialLeavesWrong 61 = .ok (.ireturn, 1) := by decide +kernel
noncomputable def P_X4_trialLeavesWrong : Nat → Op := fun pc => nd 26 pc (nd 11 pc (nd 7 pc (nd 1 pc (lf 0 pc (oALd 0 1)) (nd 4 pc (lf 1 pc (oGetR 4 1 4)) (lf 4 pc (oGetR 0 8 7)))) (nd 9 pc (nd 8 pc (lf 7 pc (oILd 1 8)) (lf 8 pc (oAAL 7 9))) (nd 10 pc (lf 9 pc (oASt 3 10)) (lf 10 pc (oALd 3 11))))) (nd 19 pc (nd 16 pc (nd 14 pc (lf 11 pc (oGetI 1 3 14)) (lf 14 pc (oISt 4 16))) (nd 17 pc (lf 16 pc (oCst 0 17)) (lf 17 pc (oISt 5 19)))) (nd 22 pc (nd 21 pc (lf 19 pc (lockO (oILd 5 21) 0)) (lf 21 pc (oILd 2 22))) (nd 25 pc (lf 22 pc (oCpLt 25 47)) (lf 25 pc (oALd 3 26)))))) (nd 47 pc (nd 35 pc (nd 31 pc (nd 29 pc (lf 26 pc (oGetI 1 3 29)) (lf 29 pc (oILd 4 31))) (nd 34 pc (lf 31 pc (oCpEq 34 47)) (lf 34 pc (oALd 0 35)))) (nd 41 pc (nd 38 pc (lf 35 pc (oGetR 4 1 38)) (lf 38 pc (oCaV 1 0 S_X0_dropOnce 41))) (nd 44 pc (lf 41 pc (oInc 5 1 44)) (lf 44 pc (oGo 19))))) (nd 56 pc (nd 51 pc (nd 48 pc (lf 47 pc (oALd 3 48)) (lf 48 pc (oGetI 1 3 51))) (nd 53 pc (lf 51 pc (oILd 4 53)) (lf 53 pc (oCpEq 56 60)))) (nd 60 pc (nd 57 pc (lf 56 pc (oCst 1 57)) (lf 57 pc (oGo 61))) (nd 61 pc (lf 60 pc (oCst 0 61)) (lf 61 pc (oZRet))))))
theorem ok_X4_trialLeavesWrong {l : Launch} {G : Gm} : ∀ pc, OkU (TXm l G (rmD 6) 6 cX4_trialLeavesWrong RX4) (RXm l G (rmD 6) 6 cX4_trialLeavesWrong RX4 (some .boolean)) pc (P_X4_trialLeavesWrong pc) := fun pc => ok_nd (ok_nd (ok_nd (ok_nd (ok_lf (ok_ALdn d_X4_trialLeavesWrong_0 rfl rfl)) (ok_nd (ok_lf (ok_GetR (by decide) (by decide) rfl d_X4_trialLeavesWrong_1 q155 rfl)) (ok_lf (ok_GetRN (by decide) (by decide) rfl d_X4_trialLeavesWrong_4 q88 rfl)))) (ok_nd (ok_nd (ok_lf (ok_ILdn d_X4_trialLeavesWrong_7 rfl rfl)) (ok_lf (ok_AAL (by decide) (by decide) d_X4_trialLeavesWrong_8 rfl))) (ok_nd (ok_lf (ok_AStn d_X4_trialLeavesWrong_9 rfl rfl)) (ok_lf (ok_ALdn d_X4_trialLeavesWrong_10 rfl rfl))))) (ok_nd (ok_nd (ok_nd (ok_lf (ok_GetIN (by decide) (by decide) rfl d_X4_trialLeavesWrong_11 q46 rfl)) (ok_lf (ok_ISt d_X4_trialLeavesWrong_14 rfl))) (ok_nd (ok_lf (ok_ICst d_X4_trialLeavesWrong_16 (by decide) rfl)) (ok_lf (ok_ISt d_X4_trialLeavesWrong_17 rfl)))) (ok_nd (ok_nd (ok_lf (ok_lk (ok_ILd d_X4_trialLeavesWrong_19 rfl))) (ok_lf (ok_ILdn d_X4_trialLeavesWrong_21 rfl rfl))) (ok_nd (ok_lf (ok_CpGe d_X4_trialLeavesWrong_22 (by decide) rfl)) (ok_lf (ok_ALdn d_X4_trialLeavesWrong_25 rfl rfl)))))) (ok_nd (ok_nd (ok_nd (ok_nd (ok_lf (ok_GetIN (by decide) (by decide) rfl d_X4_trialLeavesWrong_26 q46 rfl)) (ok_lf (ok_ILd d_X4_trialLeavesWrong_29 rfl))) (ok_nd (ok_lf (ok_CpNe d_X4_trialLeavesWrong_31 (by decide) rfl)) (ok_lf (ok_ALdn d_X4_trialLeavesWrong_34 rfl rfl)))) (ok_nd (ok_nd (ok_lf (ok_GetR (by decide) (by decide) rfl d_X4_trialLeavesWrong_35 q155 rfl)) (ok_lf (ok_CaVN su_X0_dropOnce (by decide) rfl d_X4_trialLeavesWrong_38 q308 q310 z17 q2 q311 ⟨by decide +kernel, by decide +kernel, by decide +kernel⟩ ⟨by decide, by decide⟩ rfl))) (ok_nd (ok_lf (ok_Inc d_X4_trialLeavesWrong_41 (by decide) rfl)) (ok_lf (ok_Go d_X4_trialLeavesWrong_44 (by decide)))))) (ok_nd (ok_nd (ok_nd (ok_lf (ok_ALdn d_X4_trialLeavesWrong_47 rfl rfl)) (ok_lf (ok_GetIN (by decide) (by decide) rfl d_X4_trialLeavesWrong_48 q46 rfl))) (ok_nd (ok_lf (ok_ILd d_X4_trialLeavesWrong_51 rfl)) (ok_lf (ok_CpNe d_X4_trialLeavesWrong_53 (by decide) rfl)))) (ok_nd (ok_nd (ok_lf (ok_ICst d_X4_trialLeavesWrong_56 (by decide) rfl)) (ok_lf (ok_Go d_X4_trialLeavesWrong_57 (by decide)))) (ok_nd (ok_lf (ok_ICst d_X4_trialLeavesWrong_60 (by decide) rfl)) (ok_lf (ok_ZRet d_X4_trialLeavesWrong_61))))))
noncomputable def S_X4_trialLeavesWrong : Sem := lockS (inl P_X4_trialLeavesWrong 30000 6) 0
theorem su_X4_trialLeavesWrong {l : Launch} {G : Gm} : SemU l G yX4_trialLeavesWrong (wsOf yX4_trialLeavesWrong cX4_trialLeavesWrong 6 (some .boolean)) 6 S_X4_trialLeavesWrong := sem_lock (sem_inl 30000 (by decide +kernel) rfl ok_X4_trialLeavesWrong)
theorem d_X4_heightFor_0 : decode cX4_heightFor 0 = .ok (.aload_n 0, 1) := by decide +kernel
theorem d_X4_heightFor_1 : decode cX4_heightFor 1 = .ok (.getfield 12, 3) := by decide +kernel
theorem d_X4_heightFor_4 : decode cX4_heightFor 4 = .ok (.iload_n 1, 1) := by decide +kernel
theorem d_X4_heightFor_5 : decode cX4_heightFor 5 = .ok (.invokevirtual 82, 3) := by decide +kernel
theorem d_X4_heightFor_8 : decode cX4_heightFor 8 = .ok (.ifCond .eq 13, 3) := by decide +kernel
theorem d_X4_heightFor_11 : decode cX4_heightFor 11 = .ok (.iload_n 2, 1) := by decide +kernel
theorem d_X4_heightFor_12 : decode cX4_heightFor 12 = .ok (.iconst 0, 1) := by decide +kernel
theorem d_X4_heightFor_13 : decode cX4_heightFor 13 = .ok (.bipush 60, 2) := by decide +kernel
theorem d_X4_heightFor_15 : decode cX4_heightFor 15 = .ok (.invokestatic 44, 3) := by decide +kernel
theorem d_X4_heightFor_18 : decode cX4_heightFor 18 = .ok (.ifCond .ne 10, 3) := by decide +kernel
theorem d_X4_heightFor_21 : decode cX4_heightFor 21 = .ok (.aload_n 0, 1) := by decide +kernel
theorem d_X4_heightFor_22 : decode cX4_heightFor 22 = .ok (.ldc 55, 2) := by decide +kernel
theorem d_X4_heightFor_24 : decode cX4_heightFor 24 = .ok (.invokevirtual 56, 3) := by decide +kernel
theorem d_X4_heightFor_27 : decode cX4_heightFor 27 = .ok (.ireturn, 1) := by decide +kernel
theorem d_X4_heightFor_28 : decode cX4_heightFor 28 = .ok (.iconst 1, 1) := by decide +kernel
theorem d_X4_heightFor_29 : decode cX4_heightFor 29 = .ok (.istore_n 3, 1) := by decide +kernel
theorem d_X4_heightFor_30 : decode cX4_heightFor 30 = .ok (.iload_n 3, 1) := by decide +kernel
theorem d_X4_heightFor_31 : decode cX4_heightFor 31 = .ok (.bipush 60, 2) := by decide +kernel
theorem d_X4_heightFor_33 : decode cX4_heightFor 33 = .ok (.if_icmp .gt 39, 3) := by decide +kernel
theorem d_X4_heightFor_36 : decode cX4_heightFor 36 = .ok (.aload_n 0, 1) := by decide +kernel
theorem d_X4_heightFor_37 : decode cX4_heightFor 37 = .ok (.getfield 16, 3) := by decide +kernel
theorem d_X4_heightFor_40 : decode cX4_heightFor 40 = .ok (.aload_n 0, 1) := by decide +kernel
theorem d_X4_heightFor_41 : decode cX4_heightFor 41 = .ok (.getfield 12, 3) := by decide +kernel
theorem d_X4_heightFor_44 : decode cX4_heightFor 44 = .ok (.invokevirtual 140, 3) := by decide +kernel
theorem d_X4_heightFor_47 : decode cX4_heightFor 47 = .ok (.aload_n 0, 1) := by decide +kernel
theorem d_X4_heightFor_48 : decode cX4_heightFor 48 = .ok (.getfield 16, 3) := by decide +kernel
theorem d_X4_heightFor_51 : decode cX4_heightFor 51 = .ok (.iload_n 3, 1) := by decide +kernel
theorem d_X4_heightFor_52 : decode cX4_heightFor 52 = .ok (.putfield 48, 3) := by decide +kernel
theorem d_X4_heightFor_55 : decode cX4_heightFor 55 = .ok (.aload_n 0, 1) := by decide +kernel
theorem d_X4_heightFor_56 : decode cX4_heightFor 56 = .ok (.iload_n 1, 1) := by decide +kernel
theorem d_X4_heightFor_57 : decode cX4_heightFor 57 = .ok (.iload_n 2, 1) := by decide +kernel
theorem d_X4_heightFor_58 : decode cX4_heightFor 58 = .ok (.invokevirtual 150, 3) := by decide +kernel
theorem d_X4_heightFor_61 : decode cX4_heightFor 61 = .ok (.ifCond .eq 5, 3) := by decide +kernel
theorem d_X4_heightFor_64 : decode cX4_heightFor 64 = .ok (.iload_n 3, 1) := by decide +kernel
theorem d_X4_heightFor_65 : decode cX4_heightFor 65 = .ok (.ireturn, 1) := by decide +kernel
theorem d_X4_heightFor_66 : decode cX4_heightFor 66 = .ok (.iinc 3 1, 3) := by decide +kernel
theorem d_X4_heightFor_69 : decode cX4_heightFor 69 = .ok (.goto (-39), 3) := by decide +kernel
theorem d_X4_heightFor_72 : decode cX4_heightFor 72 = .ok (.aload_n 0, 1) := by decide +kernel
theorem d_X4_heightFor_73 : decode cX4_heightFor 73 = .ok (.ldc 115, 2) := by decide +kernel
theorem d_X4_heightFor_75 : decode cX4_heightFor 75 = .ok (.invokevirtual 56, 3) := by decide +kernel
theorem d_X4_heightFor_78 : decode cX4_heightFor 78 = .ok (.ireturn, 1) := by decide +kernel
noncomputable def P_X4_heightFor : Nat → Op := fun pc => nd 37 pc (nd 21 pc (nd 11 pc (nd 4 pc (nd 1 pc (lf 0 pc (oALd 0 1)) (lf 1 pc (oGetR 4 0 4))) (nd 5 pc (lf 4 pc (oILd 1 5)) (nd 8 pc (lf 5 pc (oCaV 2 0 S_X0_has 8)) (lf 8 pc (oIfEq 21 11))))) (nd 13 pc (nd 12 pc (lf 11 pc (oILd 2 12)) (lf 12 pc (oCst 0 13))) (nd 15 pc (lf 13 pc (oCst 60 15)) (nd 18 pc (lf 15 pc (oCaS 3 S_X4_isWithin 18)) (lf 18 pc (oIfEq 21 28)))))) (nd 29 pc (nd 24 pc (nd 22 pc (lf 21 pc (oALd 0 22)) (lf 22 pc (oCst (-1000001) 24))) (nd 27 pc (lf 24 pc (oCaV 2 4 S_X4_tell 27)) (nd 28 pc (lf 27 pc (oIRet)) (lf 28 pc (oCst 1 29))))) (nd 31 pc (nd 30 pc (lf 29 pc (oISt 3 30)) (lf 30 pc (lockO (oILd 3 31) 0))) (nd 33 pc (lf 31 pc (oCst 60 33)) (nd 36 pc (lf 33 pc (oCpGt 72 36)) (lf 36 pc (oALd 0 37))))))) (nd 57 pc (nd 48 pc (nd 41 pc (nd 40 pc (lf 37 pc (oGetR 4 1 40)) (lf 40 pc (oALd 0 41))) (nd 44 pc (lf 41 pc (oGetR 4 0 44)) (nd 47 pc (lf 44 pc (oCaV 2 0 S_X0_become 47)) (lf 47 pc (oALd 0 48))))) (nd 52 pc (nd 51 pc (lf 48 pc (oGetR 4 1 51)) (lf 51 pc (oILd 3 52))) (nd 55 pc (lf 52 pc (oPutI 0 0 55)) (nd 56 pc (lf 55 pc (oALd 0 56)) (lf 56 pc (oILd 1 57)))))) (nd 66 pc (nd 61 pc (nd 58 pc (lf 57 pc (oILd 2 58)) (lf 58 pc (oCaV 3 4 S_X4_trialLeavesWrong 61))) (nd 64 pc (lf 61 pc (oIfEq 66 64)) (nd 65 pc (lf 64 pc (oILd 3 65)) (lf 65 pc (oIRet))))) (nd 73 pc (nd 69 pc (lf 66 pc (oInc 3 1 69)) (nd 72 pc (lf 69 pc (oGo 30)) (lf 72 pc (oALd 0 73)))) (nd 75 pc (lf 73 pc (oCst (-1000004) 75)) (nd 78 pc (lf 75 pc (oCaV 2 4 S_X4_tell 78)) (lf 78 pc (oIRet)))))))
theorem ok_X4_heightFor {l : Launch} {G : Gm} : ∀ pc, OkU (TXm l G (rmD 7) 4 cX4_heightFor RX4) (RXm l G (rmD 7) 4 cX4_heightFor RX4 (some .int)) pc (P_X4_heightFor pc) := fun pc => ok_nd (ok_nd (ok_nd (ok_nd (ok_nd (ok_lf (ok_ALdn d_X4_heightFor_0 rfl rfl)) (ok_lf (ok_GetR (by decide) (by decide) rfl d_X4_heightFor_1 q154 rfl))) (ok_nd (ok_lf (ok_ILdn d_X4_heightFor_4 rfl rfl)) (ok_nd (ok_lf (ok_CaVN su_X0_has (by decide) rfl d_X4_heightFor_5 q227 q229 z4 q2 q230 ⟨by decide +kernel, by decide +kernel, by decide +kernel⟩ ⟨by decide, by decide⟩ rfl)) (ok_lf (ok_IfEq d_X4_heightFor_8 (by decide) rfl))))) (ok_nd (ok_nd (ok_lf (ok_ILdn d_X4_heightFor_11 rfl rfl)) (ok_lf (ok_ICst d_X4_heightFor_12 (by decide) rfl))) (ok_nd (ok_lf (ok_BCst d_X4_heightFor_13 (by decide) rfl)) (ok_nd (ok_lf (ok_CaS su_X4_isWithin d_X4_heightFor_15 q180 q181 q1 q182 ⟨by decide +kernel, by decide +kernel, by decide +kernel⟩ ⟨by decide, by decide⟩ rfl)) (ok_lf (ok_IfNe d_X4_heightFor_18 (by decide) rfl)))))) (ok_nd (ok_nd (ok_nd (ok_lf (ok_ALdn d_X4_heightFor_21 rfl rfl)) (ok_lf (ok_Ldc d_X4_heightFor_22 q183 rfl))) (ok_nd (ok_lf (ok_CaV su_X4_tell (by decide) rfl d_X4_heightFor_24 q184 q186 z0 q1 q187 ⟨by decide +kernel, by decide +kernel, by decide +kernel⟩ ⟨by decide, by decide⟩ rfl)) (ok_nd (ok_lf (ok_IRet d_X4_heightFor_27)) (ok_lf (ok_ICst d_X4_heightFor_28 (by decide) rfl))))) (ok_nd (ok_nd (ok_lf (ok_IStn d_X4_heightFor_29 rfl rfl)) (ok_lf (ok_lk (ok_ILdn d_X4_heightFor_30 rfl rfl)))) (ok_nd (ok_lf (ok_BCst d_X4_heightFor_31 (by decide) rfl)) (ok_nd (ok_lf (ok_CpGt d_X4_heightFor_33 (by decide) rfl)) (ok_lf (ok_ALdn d_X4_heightFor_36 rfl rfl))))))) (ok_nd (ok_nd (ok_nd (ok_nd (ok_lf (ok_GetR (by decide) (by decide) rfl d_X4_heightFor_37 q155 rfl)) (ok_lf (ok_ALdn d_X4_heightFor_40 rfl rfl))) (ok_nd (ok_lf (ok_GetR (by decide) (by decide) rfl d_X4_heightFor_41 q154 rfl)) (ok_nd (ok_lf (ok_CaVN su_X0_become (by decide) rfl d_X4_heightFor_44 q365 q367 z28 q2 q368 ⟨by decide +kernel, by decide +kernel, by decide +kernel⟩ ⟨by decide, by decide⟩ rfl)) (ok_lf (ok_ALdn d_X4_heightFor_47 rfl rfl))))) (ok_nd (ok_nd (ok_lf (ok_GetR (by decide) (by decide) rfl d_X4_heightFor_48 q155 rfl)) (ok_lf (ok_ILdn d_X4_heightFor_51 rfl rfl))) (ok_nd (ok_lf (ok_PutIN (by decide) (by decide) rfl rfl (by decide +kernel) d_X4_heightFor_52 q68 rfl)) (ok_nd (ok_lf (ok_ALdn d_X4_heightFor_55 rfl rfl)) (ok_lf (ok_ILdn d_X4_heightFor_56 rfl rfl)))))) (ok_nd (ok_nd (ok_nd (ok_lf (ok_ILdn d_X4_heightFor_57 rfl rfl)) (ok_lf (ok_CaV su_X4_trialLeavesWrong (by decide) rfl d_X4_heightFor_58 q400 q402 z31 q1 q403 ⟨by decide +kernel, by decide +kernel, by decide +kernel⟩ ⟨by decide, by decide⟩ rfl))) (ok_nd (ok_lf (ok_IfEq d_X4_heightFor_61 (by decide) rfl)) (ok_nd (ok_lf (ok_ILdn d_X4_heightFor_64 rfl rfl)) (ok_lf (ok_IRet d_X4_heightFor_65))))) (ok_nd (ok_nd (ok_lf (ok_Inc d_X4_heightFor_66 (by decide) rfl)) (ok_nd (ok_lf (ok_Go d_X4_heightFor_69 (by decide))) (ok_lf (ok_ALdn d_X4_heightFor_72 rfl rfl)))) (ok_nd (ok_lf (ok_Ldc d_X4_heightFor_73 q301 rfl)) (ok_nd (ok_lf (ok_CaV su_X4_tell (by decide) rfl d_X4_heightFor_75 q184 q186 z0 q1 q187 ⟨by decide +kernel, by decide +kernel, by decide +kernel⟩ ⟨by decide, by decide⟩ rfl)) (ok_lf (ok_IRet d_X4_heightFor_78)))))))
noncomputable def S_X4_heightFor : Sem := lockS (inl P_X4_heightFor 30000 4) 0
theorem su_X4_heightFor {l : Launch} {G : Gm} : SemU l G yX4_heightFor (wsOf yX4_heightFor cX4_heightFor 4 (some .int)) 7 S_X4_heightFor := sem_lock (sem_inl 30000 (by decide +kernel) rfl ok_X4_heightFor)
theorem d_X4_trialRight_0 : decode cX4_trialRight 0 = .ok (.iconst 0, 1) := by decide +kernel
theorem d_X4_trialRight_1 : decode cX4_trialRight 1 = .ok (.istore_n 3, 1) := by decide +kernel
theorem d_X4_trialRight_2 : decode cX4_trialRight 2 = .ok (.iload_n 3, 1) := by decide +kernel
theorem d_X4_trialRight_3 : decode cX4_trialRight 3 = .ok (.iload_n 2, 1) := by decide +kernel
theorem d_X4_trialRight_4 : decode cX4_trialRight 4 = .ok (.if_icmp .ge 16, 3) := by decide +kernel
theorem d_X4_trialRight_7 : decode cX4_trialRight 7 = .ok (.aload_n 0, 1) := by decide +kernel
theorem d_X4_trialRight_8 : decode cX4_trialRight 8 = .ok (.getfield 16, 3) := by decide +kernel
theorem d_X4_trialRight_11 : decode cX4_trialRight 11 = .ok (.invokevirtual 118, 3) := by decide +kernel
theorem d_X4_trialRight_14 : decode cX4_trialRight 14 = .ok (.iinc 3 1, 3) := by decide +kernel
theorem d_X4_trialRight_17 : decode cX4_trialRight 17 = .ok (.goto (-15), 3) := by decide +kernel
theorem d_X4_trialRight_20 : decode cX4_trialRight 20 = .ok (.aload_n 0, 1) := by decide +kernel
theorem d_X4_trialRight_21 : decode cX4_trialRight 21 = .ok (.getfield 16, 3) := by decide +kernel
theorem d_X4_trialRight_24 : decode cX4_trialRight 24 = .ok (.getfield 87, 3) := by decide +kernel
theorem d_X4_trialRight_27 : decode cX4_trialRight 27 = .ok (.iload_n 1, 1) := by decide +kernel
theorem d_X4_trialRight_28 : decode cX4_trialRight 28 = .ok (.aaload, 1) := by decide +kernel
theorem d_X4_trialRight_29 : decode cX4_trialRight 29 = .ok (.getfield 242, 3) := by decide +kernel
theorem d_X4_trialRight_32 : decode cX4_trialRight 32 = .ok (.ireturn, 1) := by decide +kernel
noncomputable def P_X4_trialRight : Nat → Op := fun pc => nd 14 pc (nd 4 pc (nd 2 pc (nd 1 pc (lf 0 pc (oCst 0 1)) (lf 1 pc (oISt 3 2))) (nd 3 pc (lf 2 pc (lockO (oILd 3 3) 0)) (lf 3 pc (oILd 2 4)))) (nd 8 pc (nd 7 pc (lf 4 pc (oCpLt 7 20)) (lf 7 pc (oALd 0 8))) (nd 11 pc (lf 8 pc (oGetR 4 1 11)) (lf 11 pc (oCaV 1 0 S_X0_dropOnce 14))))) (nd 24 pc (nd 20 pc (nd 17 pc (lf 14 pc (oInc 3 1 17)) (lf 17 pc (oGo 2))) (nd 21 pc (lf 20 pc (oALd 0 21)) (lf 21 pc (oGetR 4 1 24)))) (nd 28 pc (nd 27 pc (lf 24 pc (oGetR 0 8 27)) (lf 27 pc (oILd 1 28))) (nd 29 pc (lf 28 pc (oAAL 7 29)) (nd 32 pc (lf 29 pc (oGetI 1 4 32)) (lf 32 pc (oIRet))))))
theorem ok_X4_trialRight {l : Launch} {G : Gm} : ∀ pc, OkU (TXm l G (rmD 6) 4 cX4_trialRight RX4) (RXm l G (rmD 6) 4 cX4_trialRight RX4 (some .int)) pc (P_X4_trialRight pc) := fun pc => ok_nd (ok_nd (ok_nd (ok_nd (ok_lf (ok_ICst d_X4_trialRight_0 (by decide) rfl)) (ok_lf (ok_IStn d_X4_trialRight_1 rfl rfl))) (ok_nd (ok_lf (ok_lk (ok_ILdn d_X4_trialRight_2 rfl rfl))) (ok_lf (ok_ILdn d_X4_trialRight_3 rfl rfl)))) (ok_nd (ok_nd (ok_lf (ok_CpGe d_X4_trialRight_4 (by decide) rfl)) (ok_lf (ok_ALdn d_X4_trialRight_7 rfl rfl))) (ok_nd (ok_lf (ok_GetR (by decide) (by decide) rfl d_X4_trialRight_8 q155 rfl)) (ok_lf (ok_CaVN su_X0_dropOnce (by decide) rfl d_X4_trialRight_11 q308 q310 z17 q2 q311 ⟨by decide +kernel, by decide +kernel, by decide +kernel⟩ ⟨by decide, by decide⟩ rfl))))) (ok_nd (ok_nd (ok_nd (ok_lf (ok_Inc d_X4_trialRight_14 (by decide) rfl)) (ok_lf (ok_Go d_X4_trialRight_17 (by decide)))) (ok_nd (ok_lf (ok_ALdn d_X4_trialRight_20 rfl rfl)) (ok_lf (ok_GetR (by decide) (by decide) rfl d_X4_trialRight_21 q155 rfl)))) (ok_nd (ok_nd (ok_lf (ok_GetRN (by decide) (by decide) rfl d_X4_trialRight_24 q88 rfl)) (ok_lf (ok_ILdn d_X4_trialRight_27 rfl rfl))) (ok_nd (ok_lf (ok_AAL (by decide) (by decide) d_X4_trialRight_28 rfl)) (ok_nd (ok_lf (ok_GetIN (by decide) (by decide) rfl d_X4_trialRight_29 q49 rfl)) (ok_lf (ok_IRet d_X4_trialRight_32))))))
noncomputable def S_X4_trialRight : Sem := lockS (inl P_X4_trialRight 30000 4) 0
theorem su_X4_trialRight {l : Launch} {G : Gm} : SemU l G yX4_trialRight (wsOf yX4_trialRight cX4_trialRight 4 (some .int)) 6 S_X4_trialRight := sem_lock (sem_inl 30000 (by decide +kernel) rfl ok_X4_trialRight)
theorem d_X4_spreadFor_0 : decode cX4_spreadFor 0 = .ok (.aload_n 0, 1) := by decide +kernel
theorem d_X4_spreadFor_1 : decode cX4_spreadFor 1 = .ok (.getfield 12, 3) := by decide +kernel
theorem d_X4_spreadFor_4 : decode cX4_spreadFor 4 = .ok (.iload_n 1, 1) := by decide +kernel
theorem d_X4_spreadFor_5 : decode cX4_spreadFor 5 = .ok (.invokevirtual 82, 3) := by decide +kernel
theorem d_X4_spreadFor_8 : decode cX4_spreadFor 8 = .ok (.ifCond .eq 13, 3) := by decide +kernel
theorem d_X4_spreadFor_11 : decode cX4_spreadFor 11 = .ok (.iload_n 2, 1) := by decide +kernel
theorem d_X4_spreadFor_12 : decode cX4_spreadFor 12 = .ok (.iconst 0, 1) := by decide +kernel
theorem d_X4_spreadFor_13 : decode cX4_spreadFor 13 = .ok (.bipush 60, 2) := by decide +kernel
theorem d_X4_spreadFor_15 : decode cX4_spreadFor 15 = .ok (.invokestatic 44, 3) := by decide +kernel
theorem d_X4_spreadFor_18 : decode cX4_spreadFor 18 = .ok (.ifCond .ne 10, 3) := by decide +kernel
theorem d_X4_spreadFor_21 : decode cX4_spreadFor 21 = .ok (.aload_n 0, 1) := by decide +kernel
theorem d_X4_spreadFor_22 : decode cX4_spreadFor 22 = .ok (.ldc 55, 2) := by decide +kernel
theorem d_X4_spreadFor_24 : decode cX4_spreadFor 24 = .ok (.invokevirtual 56, 3) := by decide +kernel
theorem d_X4_spreadFor_27 : decode cX4_spreadFor 27 = .ok (.ireturn, 1) := by decide +kernel
theorem d_X4_spreadFor_28 : decode cX4_spreadFor 28 = .ok (.iconst 0, 1) := by decide +kernel
theorem d_X4_spreadFor_29 : decode cX4_spreadFor 29 = .ok (.istore_n 3, 1) := by decide +kernel
theorem d_X4_spreadFor_30 : decode cX4_spreadFor 30 = .ok (.iconst (-1), 1) := by decide +kernel
theorem d_X4_spreadFor_31 : decode cX4_spreadFor 31 = .ok (.istore 4, 2) := by decide +kernel
theorem d_X4_spreadFor_33 : decode cX4_spreadFor 33 = .ok (.iconst 0, 1) := by decide +kernel
theorem d_X4_spreadFor_34 : decode cX4_spreadFor 34 = .ok (.istore 5, 2) := by decide +kernel
theorem d_X4_spreadFor_36 : decode cX4_spreadFor 36 = .ok (.iload 5, 2) := by decide +kernel
theorem d_X4_spreadFor_38 : decode cX4_spreadFor 38 = .ok (.bipush 9, 2) := by decide +kernel
theorem d_X4_spreadFor_40 : decode cX4_spreadFor 40 = .ok (.if_icmp .gt 51, 3) := by decide +kernel
theorem d_X4_spreadFor_43 : decode cX4_spreadFor 43 = .ok (.aload_n 0, 1) := by decide +kernel
theorem d_X4_spreadFor_44 : decode cX4_spreadFor 44 = .ok (.getfield 16, 3) := by decide +kernel
theorem d_X4_spreadFor_47 : decode cX4_spreadFor 47 = .ok (.aload_n 0, 1) := by decide +kernel
theorem d_X4_spreadFor_48 : decode cX4_spreadFor 48 = .ok (.getfield 12, 3) := by decide +kernel
theorem d_X4_spreadFor_51 : decode cX4_spreadFor 51 = .ok (.invokevirtual 140, 3) := by decide +kernel
theorem d_X4_spreadFor_54 : decode cX4_spreadFor 54 = .ok (.aload_n 0, 1) := by decide +kernel
theorem d_X4_spreadFor_55 : decode cX4_spreadFor 55 = .ok (.getfield 16, 3) := by decide +kernel
theorem d_X4_spreadFor_58 : decode cX4_spreadFor 58 = .ok (.iload 5, 2) := by decide +kernel
theorem d_X4_spreadFor_60 : decode cX4_spreadFor 60 = .ok (.putfield 52, 3) := by decide +kernel
theorem d_X4_spreadFor_63 : decode cX4_spreadFor 63 = .ok (.aload_n 0, 1) := by decide +kernel
theorem d_X4_spreadFor_64 : decode cX4_spreadFor 64 = .ok (.iload_n 1, 1) := by decide +kernel
theorem d_X4_spreadFor_65 : decode cX4_spreadFor 65 = .ok (.iload_n 2, 1) := by decide +kernel
theorem d_X4_spreadFor_66 : decode cX4_spreadFor 66 = .ok (.invokevirtual 153, 3) := by decide +kernel
theorem d_X4_spreadFor_69 : decode cX4_spreadFor 69 = .ok (.istore 6, 2) := by decide +kernel
theorem d_X4_spreadFor_71 : decode cX4_spreadFor 71 = .ok (.iload 6, 2) := by decide +kernel
theorem d_X4_spreadFor_73 : decode cX4_spreadFor 73 = .ok (.iload 4, 2) := by decide +kernel
theorem d_X4_spreadFor_75 : decode cX4_spreadFor 75 = .ok (.if_icmp .le 10, 3) := by decide +kernel
theorem d_X4_spreadFor_78 : decode cX4_spreadFor 78 = .ok (.iload 5, 2) := by decide +kernel
theorem d_X4_spreadFor_80 : decode cX4_spreadFor 80 = .ok (.istore_n 3, 1) := by decide +kernel
theorem d_X4_spreadFor_81 : decode cX4_spreadFor 81 = .ok (.iload 6, 2) := by decide +kernel
theorem d_X4_spreadFor_83 : decode cX4_spreadFor 83 = .ok (.istore 4, 2) := by decide +kernel
theorem d_X4_spreadFor_85 : decode cX4_spreadFor 85 = .ok (.iinc 5 1, 3) := by decide +kernel
theorem d_X4_spreadFor_88 : decode cX4_spreadFor 88 = .ok (.goto (-52), 3) := by decide +kernel
theorem d_X4_spreadFor_91 : decode cX4_spreadFor 91 = .ok (.iload_n 3, 1) := by decide +kernel
theorem d_X4_spreadFor_92 : decode cX4_spreadFor 92 = .ok (.ireturn, 1) := by decide +kernel
noncomputable def P_X4_spreadFor : Nat → Op := fun pc => nd 44 pc (nd 24 pc (nd 12 pc (nd 5 pc (nd 1 pc (lf 0 pc (oALd 0 1)) (nd 4 pc (lf 1 pc (oGetR 4 0 4)) (lf 4 pc (oILd 1 5)))) (nd 8 pc (lf 5 pc (oCaV 2 0 S_X0_has 8)) (nd 11 pc (lf 8 pc (oIfEq 21 11)) (lf 11 pc (oILd 2 12))))) (nd 18 pc (nd 13 pc (lf 12 pc (oCst 0 13)) (nd 15 pc (lf 13 pc (oCst 60 15)) (lf 15 pc (oCaS 3 S_X4_isWithin 18)))) (nd 21 pc (lf 18 pc (oIfEq 21 28)) (nd 22 pc (lf 21 pc (oALd 0 22)) (lf 22 pc (oCst (-1000001) 24)))))) (nd 33 pc (nd 29 pc (nd 27 pc (lf 24 pc (oCaV 2 4 S_X4_tell 27)) (nd 28 pc (lf 27 pc (oIRet)) (lf 28 pc (oCst 0 29)))) (nd 30 pc (lf 29 pc (oISt 3 30)) (nd 31 pc (lf 30 pc (oCst (-1) 31)) (lf 31 pc (oISt 4 33))))) (nd 38 pc (nd 34 pc (lf 33 pc (oCst 0 34)) (nd 36 pc (lf 34 pc (oISt 5 36)) (lf 36 pc (lockO (oILd 5 38) 0)))) (nd 40 pc (lf 38 pc (oCst 9 40)) (nd 43 pc (lf 40 pc (oCpGt 91 43)) (lf 43 pc (oALd 0 44))))))) (nd 69 pc (nd 58 pc (nd 51 pc (nd 47 pc (lf 44 pc (oGetR 4 1 47)) (nd 48 pc (lf 47 pc (oALd 0 48)) (lf 48 pc (oGetR 4 0 51)))) (nd 54 pc (lf 51 pc (oCaV 2 0 S_X0_become 54)) (nd 55 pc (lf 54 pc (oALd 0 55)) (lf 55 pc (oGetR 4 1 58))))) (nd 64 pc (nd 60 pc (lf 58 pc (oILd 5 60)) (nd 63 pc (lf 60 pc (oPutI 0 1 63)) (lf 63 pc (oALd 0 64)))) (nd 65 pc (lf 64 pc (oILd 1 65)) (nd 66 pc (lf 65 pc (oILd 2 66)) (lf 66 pc (oCaV 3 4 S_X4_trialRight 69)))))) (nd 81 pc (nd 75 pc (nd 71 pc (lf 69 pc (oISt 6 71)) (nd 73 pc (lf 71 pc (oILd 6 73)) (lf 73 pc (oILd 4 75)))) (nd 78 pc (lf 75 pc (oCpGt 78 85)) (nd 80 pc (lf 78 pc (oILd 5 80)) (lf 80 pc (oISt 3 81))))) (nd 88 pc (nd 83 pc (lf 81 pc (oILd 6 83)) (nd 85 pc (lf 83 pc (oISt 4 85)) (lf 85 pc (oInc 5 1 88)))) (nd 91 pc (lf 88 pc (oGo 36)) (nd 92 pc (lf 91 pc (oILd 3 92)) (lf 92 pc (oIRet)))))))
theorem ok_X4_spreadFor {l : Launch} {G : Gm} : ∀ pc, OkU (TXm l G (rmD 7) 7 cX4_spreadFor RX4) (RXm l G (rmD 7) 7 cX4_spreadFor RX4 (some .int)) pc (P_X4_spreadFor pc) := fun pc => ok_nd (ok_nd (ok_nd (ok_nd (ok_nd (ok_lf (ok_ALdn d_X4_spreadFor_0 rfl rfl)) (ok_nd (ok_lf (ok_GetR (by decide) (by decide) rfl d_X4_spreadFor_1 q154 rfl)) (ok_lf (ok_ILdn d_X4_spreadFor_4 rfl rfl)))) (ok_nd (ok_lf (ok_CaVN su_X0_has (by decide) rfl d_X4_spreadFor_5 q227 q229 z4 q2 q230 ⟨by decide +kernel, by decide +kernel, by decide +kernel⟩ ⟨by decide, by decide⟩ rfl)) (ok_nd (ok_lf (ok_IfEq d_X4_spreadFor_8 (by decide) rfl)) (ok_lf (ok_ILdn d_X4_spreadFor_11 rfl rfl))))) (ok_nd (ok_nd (ok_lf (ok_ICst d_X4_spreadFor_12 (by decide) rfl)) (ok_nd (ok_lf (ok_BCst d_X4_spreadFor_13 (by decide) rfl)) (ok_lf (ok_CaS su_X4_isWithin d_X4_spreadFor_15 q180 q181 q1 q182 ⟨by decide +kernel, by decide +kernel, by decide +kernel⟩ ⟨by decide, by decide⟩ rfl)))) (ok_nd (ok_lf (ok_IfNe d_X4_spreadFor_18 (by decide) rfl)) (ok_nd (ok_lf (ok_ALdn d_X4_spreadFor_21 rfl rfl)) (ok_lf (ok_Ldc d_X4_spreadFor_22 q183 rfl)))))) (ok_nd (ok_nd (ok_nd (ok_lf (ok_CaV su_X4_tell (by decide) rfl d_X4_spreadFor_24 q184 q186 z0 q1 q187 ⟨by decide +kernel, by decide +kernel, by decide +kernel⟩ ⟨by decide, by decide⟩ rfl)) (ok_nd (ok_lf (ok_IRet d_X4_spreadFor_27)) (ok_lf (ok_ICst d_X4_spreadFor_28 (by decide) rfl)))) (ok_nd (ok_lf (ok_IStn d_X4_spreadFor_29 rfl rfl)) (ok_nd (ok_lf (ok_ICst d_X4_spreadFor_30 (by decide) rfl)) (ok_lf (ok_ISt d_X4_spreadFor_31 rfl))))) (ok_nd (ok_nd (ok_lf (ok_ICst d_X4_spreadFor_33 (by decide) rfl)) (ok_nd (ok_lf (ok_ISt d_X4_spreadFor_34 rfl)) (ok_lf (ok_lk (ok_ILd d_X4_spreadFor_36 rfl))))) (ok_nd (ok_lf (ok_BCst d_X4_spreadFor_38 (by decide) rfl)) (ok_nd (ok_lf (ok_CpGt d_X4_spreadFor_40 (by decide) rfl)) (ok_lf (ok_ALdn d_X4_spreadFor_43 rfl rfl))))))) (ok_nd (ok_nd (ok_nd (ok_nd (ok_lf (ok_GetR (by decide) (by decide) rfl d_X4_spreadFor_44 q155 rfl)) (ok_nd (ok_lf (ok_ALdn d_X4_spreadFor_47 rfl rfl)) (ok_lf (ok_GetR (by decide) (by decide) rfl d_X4_spreadFor_48 q154 rfl)))) (ok_nd (ok_lf (ok_CaVN su_X0_become (by decide) rfl d_X4_spreadFor_51 q365 q367 z28 q2 q368 ⟨by decide +kernel, by decide +kernel, by decide +kernel⟩ ⟨by decide, by decide⟩ rfl)) (ok_nd (ok_lf (ok_ALdn d_X4_spreadFor_54 rfl rfl)) (ok_lf (ok_GetR (by decide) (by decide) rfl d_X4_spreadFor_55 q155 rfl))))) (ok_nd (ok_nd (ok_lf (ok_ILd d_X4_spreadFor_58 rfl)) (ok_nd (ok_lf (ok_PutIN (by decide) (by decide) rfl rfl (by decide +kernel) d_X4_spreadFor_60 q71 rfl)) (ok_lf (ok_ALdn d_X4_spreadFor_63 rfl rfl)))) (ok_nd (ok_lf (ok_ILdn d_X4_spreadFor_64 rfl rfl)) (ok_nd (ok_lf (ok_ILdn d_X4_spreadFor_65 rfl rfl)) (ok_lf (ok_CaV su_X4_trialRight (by decide) rfl d_X4_spreadFor_66 q408 q410 z32 q1 q411 ⟨by decide +kernel, by decide +kernel, by decide +kernel⟩ ⟨by decide, by decide⟩ rfl)))))) (ok_nd (ok_nd (ok_nd (ok_lf (ok_ISt d_X4_spreadFor_69 rfl)) (ok_nd (ok_lf (ok_ILd d_X4_spreadFor_71 rfl)) (ok_lf (ok_ILd d_X4_spreadFor_73 rfl)))) (ok_nd (ok_lf (ok_CpLe d_X4_spreadFor_75 (by decide) rfl)) (ok_nd (ok_lf (ok_ILd d_X4_spreadFor_78 rfl)) (ok_lf (ok_IStn d_X4_spreadFor_80 rfl rfl))))) (ok_nd (ok_nd (ok_lf (ok_ILd d_X4_spreadFor_81 rfl)) (ok_nd (ok_lf (ok_ISt d_X4_spreadFor_83 rfl)) (ok_lf (ok_Inc d_X4_spreadFor_85 (by decide) rfl)))) (ok_nd (ok_lf (ok_Go d_X4_spreadFor_88 (by decide))) (ok_nd (ok_lf (ok_ILdn d_X4_spreadFor_91 rfl rfl)) (ok_lf (ok_IRet d_X4_spreadFor_92)))))))
noncomputable def S_X4_spreadFor : Sem := lockS (inl P_X4_spreadFor 30000 7) 0
theorem su_X4_spreadFor {l : Launch} {G : Gm} : SemU l G yX4_spreadFor (wsOf yX4_spreadFor cX4_spreadFor 7 (some .int)) 7 S_X4_spreadFor := sem_lock (sem_inl 30000 (by decide +kernel) rfl ok_X4_spreadFor)
theorem d_X4_kindFor_0 : decode cX4_kindFor 0 = .ok (.aload_n 0, 1) := by decide +kernel
theorem d_X4_kindFor_1 : decode cX4_kindFor 1 = .ok (.getfield 12, 3) := by decide +kernel
theorem d_X4_kindFor_4 : decode cX4_kindFor 4 = .ok (.iload_n 1, 1) := by decide +kernel
theorem d_X4_kindFor_5 : decode cX4_kindFor 5 = .ok (.invokevirtual 82, 3) := by decide +kernel
theorem d_X4_kindFor_8 : decode cX4_kindFor 8 = .ok (.ifCond .eq 13, 3) := by decide +kernel
theorem d_X4_kindFor_11 : decode cX4_kindFor 11 = .ok (.iload_n 2, 1) := by decide +kernel
theorem d_X4_kindFor_12 : decode cX4_kindFor 12 = .ok (.iconst 0, 1) := by decide +kernel
theorem d_X4_kindFor_13 : decode cX4_kindFor 13 = .ok (.bipush 60, 2) := by decide +kernel
theorem d_X4_kindFor_15 : decode cX4_kindFor 15 = .ok (.invokestatic 44, 3) := by decide +kernel
theorem d_X4_kindFor_18 : decode cX4_kindFor 18 = .ok (.ifCond .ne 10, 3) := by decide +kernel
theorem d_X4_kindFor_21 : decode cX4_kindFor 21 = .ok (.aload_n 0, 1) := by decide +kernel
theorem d_X4_kindFor_22 : decode cX4_kindFor 22 = .ok (.ldc 55, 2) := by decide +kernel
theorem d_X4_kindFor_24 : decode cX4_kindFor 24 = .ok (.invokevirtual 56, 3) := by decide +kernel
theorem d_X4_kindFor_27 : decode cX4_kindFor 27 = .ok (.ireturn, 1) := by decide +kernel
theorem d_X4_kindFor_28 : decode cX4_kindFor 28 = .ok (.iconst 0, 1) := by decide +kernel
theorem d_X4_kindFor_29 : decode cX4_kindFor 29 = .ok (.istore_n 3, 1) := by decide +kernel
theorem d_X4_kindFor_30 : decode cX4_kindFor 30 = .ok (.iconst (-1), 1) := by decide +kernel
theorem d_X4_kindFor_31 : decode cX4_kindFor 31 = .ok (.istore 4, 2) := by decide +kernel
theorem d_X4_kindFor_33 : decode cX4_kindFor 33 = .ok (.iconst 0, 1) := by decide +kernel
theorem d_X4_kindFor_34 : decode cX4_kindFor 34 = .ok (.istore 5, 2) := by decide +kernel
theorem d_X4_kindFor_36 : decode cX4_kindFor 36 = .ok (.iload 5, 2) := by decide +kernel
theorem d_X4_kindFor_38 : decode cX4_kindFor 38 = .ok (.bipush 6, 2) := by decide +kernel
theorem d_X4_kindFor_40 : decode cX4_kindFor 40 = .ok (.if_icmp .gt 56, 3) := by decide +kernel
theorem d_X4_kindFor_43 : decode cX4_kindFor 43 = .ok (.aload_n 0, 1) := by decide +kernel
theorem d_X4_kindFor_44 : decode cX4_kindFor 44 = .ok (.getfield 16, 3) := by decide +kernel
theorem d_X4_kindFor_47 : decode cX4_kindFor 47 = .ok (.aload_n 0, 1) := by decide +kernel
theorem d_X4_kindFor_48 : decode cX4_kindFor 48 = .ok (.getfield 12, 3) := by decide +kernel
theorem d_X4_kindFor_51 : decode cX4_kindFor 51 = .ok (.invokevirtual 140, 3) := by decide +kernel
theorem d_X4_kindFor_54 : decode cX4_kindFor 54 = .ok (.aload_n 0, 1) := by decide +kernel
theorem d_X4_kindFor_55 : decode cX4_kindFor 55 = .ok (.getfield 16, 3) := by decide +kernel
theorem d_X4_kindFor_58 : decode cX4_kindFor 58 = .ok (.getfield 87, 3) := by decide +kernel
theorem d_X4_kindFor_61 : decode cX4_kindFor 61 = .ok (.iload_n 1, 1) := by decide +kernel
theorem d_X4_kindFor_62 : decode cX4_kindFor 62 = .ok (.aaload, 1) := by decide +kernel
theorem d_X4_kindFor_63 : decode cX4_kindFor 63 = .ok (.iload 5, 2) := by decide +kernel
theorem d_X4_kindFor_65 : decode cX4_kindFor 65 = .ok (.putfield 156, 3) := by decide +kernel
theorem d_X4_kindFor_68 : decode cX4_kindFor 68 = .ok (.aload_n 0, 1) := by decide +kernel
theorem d_X4_kindFor_69 : decode cX4_kindFor 69 = .ok (.iload_n 1, 1) := by decide +kernel
theorem d_X4_kindFor_70 : decode cX4_kindFor 70 = .ok (.iload_n 2, 1) := by decide +kernel
theorem d_X4_kindFor_71 : decode cX4_kindFor 71 = .ok (.invokevirtual 153, 3) := by decide +kernel
theorem d_X4_kindFor_74 : decode cX4_kindFor 74 = .ok (.istore 6, 2) := by decide +kernel
theorem d_X4_kindFor_76 : decode cX4_kindFor 76 = .ok (.iload 6, 2) := by decide +kernel
theorem d_X4_kindFor_78 : decode cX4_kindFor 78 = .ok (.iload 4, 2) := by decide +kernel
theorem d_X4_kindFor_80 : decode cX4_kindFor 80 = .ok (.if_icmp .le 10, 3) := by decide +kernel
theorem d_X4_kindFor_83 : decode cX4_kindFor 83 = .ok (.iload 5, 2) := by decide +kernel
theorem d_X4_kindFor_85 : decode cX4_kindFor 85 = .ok (.istore_n 3, 1) := by decide +kernel
theorem d_X4_kindFor_86 : decode cX4_kindFor 86 = .ok (.iload 6, 2) := by decide +kernel
theorem d_X4_kindFor_88 : decode cX4_kindFor 88 = .ok (.istore 4, 2) := by decide +kernel
theorem d_X4_kindFor_90 : decode cX4_kindFor 90 = .ok (.iinc 5 1, 3) := by decide +kernel
theorem d_X4_kindFor_93 : decode cX4_kindFor 93 = .ok (.goto (-57), 3) := by decide +kernel
theorem d_X4_kindFor_96 : decode cX4_kindFor 96 = .ok (.iload_n 3, 1) := by decide +kernel
theorem d_X4_kindFor_97 : decode cX4_kindFor 97 = .ok (.ireturn, 1) := by decide +kernel
noncomputable def P_X4_kindFor : Nat → Op := fun pc => nd 47 pc (nd 24 pc (nd 12 pc (nd 5 pc (nd 1 pc (lf 0 pc (oALd 0 1)) (nd 4 pc (lf 1 pc (oGetR 4 0 4)) (lf 4 pc (oILd 1 5)))) (nd 8 pc (lf 5 pc (oCaV 2 0 S_X0_has 8)) (nd 11 pc (lf 8 pc (oIfEq 21 11)) (lf 11 pc (oILd 2 12))))) (nd 18 pc (nd 13 pc (lf 12 pc (oCst 0 13)) (nd 15 pc (lf 13 pc (oCst 60 15)) (lf 15 pc (oCaS 3 S_X4_isWithin 18)))) (nd 21 pc (lf 18 pc (oIfEq 21 28)) (nd 22 pc (lf 21 pc (oALd 0 22)) (lf 22 pc (oCst (-1000001) 24)))))) (nd 33 pc (nd 29 pc (nd 27 pc (lf 24 pc (oCaV 2 4 S_X4_tell 27)) (nd 28 pc (lf 27 pc (oIRet)) (lf 28 pc (oCst 0 29)))) (nd 30 pc (lf 29 pc (oISt 3 30)) (nd 31 pc (lf 30 pc (oCst (-1) 31)) (lf 31 pc (oISt 4 33))))) (nd 38 pc (nd 34 pc (lf 33 pc (oCst 0 34)) (nd 36 pc (lf 34 pc (oISt 5 36)) (lf 36 pc (lockO (oILd 5 38) 0)))) (nd 43 pc (nd 40 pc (lf 38 pc (oCst 6 40)) (lf 40 pc (oCpGt 96 43))) (nd 44 pc (lf 43 pc (oALd 0 44)) (lf 44 pc (oGetR 4 1 47))))))) (nd 71 pc (nd 61 pc (nd 54 pc (nd 48 pc (lf 47 pc (oALd 0 48)) (nd 51 pc (lf 48 pc (oGetR 4 0 51)) (lf 51 pc (oCaV 2 0 S_X0_become 54)))) (nd 55 pc (lf 54 pc (oALd 0 55)) (nd 58 pc (lf 55 pc (oGetR 4 1 58)) (lf 58 pc (oGetR 0 8 61))))) (nd 65 pc (nd 62 pc (lf 61 pc (oILd 1 62)) (nd 63 pc (lf 62 pc (oAAL 7 63)) (lf 63 pc (oILd 5 65)))) (nd 69 pc (nd 68 pc (lf 65 pc (oPutI 1 0 68)) (lf 68 pc (oALd 0 69))) (nd 70 pc (lf 69 pc (oILd 1 70)) (lf 70 pc (oILd 2 71)))))) (nd 85 pc (nd 78 pc (nd 74 pc (lf 71 pc (oCaV 3 4 S_X4_trialRight 74)) (nd 76 pc (lf 74 pc (oISt 6 76)) (lf 76 pc (oILd 6 78)))) (nd 80 pc (lf 78 pc (oILd 4 80)) (nd 83 pc (lf 80 pc (oCpGt 83 90)) (lf 83 pc (oILd 5 85))))) (nd 90 pc (nd 86 pc (lf 85 pc (oISt 3 86)) (nd 88 pc (lf 86 pc (oILd 6 88)) (lf 88 pc (oISt 4 90)))) (nd 96 pc (nd 93 pc (lf 90 pc (oInc 5 1 93)) (lf 93 pc (oGo 36))) (nd 97 pc (lf 96 pc (oILd 3 97)) (lf 97 pc (oIRet)))))))
theorem ok_X4_kindFor {l : Launch} {G : Gm} : ∀ pc, OkU (TXm l G (rmD 7) 7 cX4_kindFor RX4) (RXm l G (rmD 7) 7 cX4_kindFor RX4 (some .int)) pc (P_X4_kindFor pc) := fun pc => ok_nd (ok_nd (ok_nd (ok_nd (ok_nd (ok_lf (ok_ALdn d_X4_kindFor_0 rfl rfl)) (ok_nd (ok_lf (ok_GetR (by decide) (by decide) rfl d_X4_kindFor_1 q154 rfl)) (ok_lf (ok_ILdn d_X4_kindFor_4 rfl rfl)))) (ok_nd (ok_lf (ok_CaVN su_X0_has (by decide) rfl d_X4_kindFor_5 q227 q229 z4 q2 q230 ⟨by decide +kernel, by decide +kernel, by decide +kernel⟩ ⟨by decide, by decide⟩ rfl)) (ok_nd (ok_lf (ok_IfEq d_X4_kindFor_8 (by decide) rfl)) (ok_lf (ok_ILdn d_X4_kindFor_11 rfl rfl))))) (ok_nd (ok_nd (ok_lf (ok_ICst d_X4_kindFor_12 (by decide) rfl)) (ok_nd (ok_lf (ok_BCst d_X4_kindFor_13 (by decide) rfl)) (ok_lf (ok_CaS su_X4_isWithin d_X4_kindFor_15 q180 q181 q1 q182 ⟨by decide +kernel, by decide +kernel, by decide +kernel⟩ ⟨by decide, by decide⟩ rfl)))) (ok_nd (ok_lf (ok_IfNe d_X4_kindFor_18 (by decide) rfl)) (ok_nd (ok_lf (ok_ALdn d_X4_kindFor_21 rfl rfl)) (ok_lf (ok_Ldc d_X4_kindFor_22 q183 rfl)))))) (ok_nd (ok_nd (ok_nd (ok_lf (ok_CaV su_X4_tell (by decide) rfl d_X4_kindFor_24 q184 q186 z0 q1 q187 ⟨by decide +kernel, by decide +kernel, by decide +kernel⟩ ⟨by decide, by decide⟩ rfl)) (ok_nd (ok_lf (ok_IRet d_X4_kindFor_27)) (ok_lf (ok_ICst d_X4_kindFor_28 (by decide) rfl)))) (ok_nd (ok_lf (ok_IStn d_X4_kindFor_29 rfl rfl)) (ok_nd (ok_lf (ok_ICst d_X4_kindFor_30 (by decide) rfl)) (ok_lf (ok_ISt d_X4_kindFor_31 rfl))))) (ok_nd (ok_nd (ok_lf (ok_ICst d_X4_kindFor_33 (by decide) rfl)) (ok_nd (ok_lf (ok_ISt d_X4_kindFor_34 rfl)) (ok_lf (ok_lk (ok_ILd d_X4_kindFor_36 rfl))))) (ok_nd (ok_nd (ok_lf (ok_BCst d_X4_kindFor_38 (by decide) rfl)) (ok_lf (ok_CpGt d_X4_kindFor_40 (by decide) rfl))) (ok_nd (ok_lf (ok_ALdn d_X4_kindFor_43 rfl rfl)) (ok_lf (ok_GetR (by decide) (by decide) rfl d_X4_kindFor_44 q155 rfl))))))) (ok_nd (ok_nd (ok_nd (ok_nd (ok_lf (ok_ALdn d_X4_kindFor_47 rfl rfl)) (ok_nd (ok_lf (ok_GetR (by decide) (by decide) rfl d_X4_kindFor_48 q154 rfl)) (ok_lf (ok_CaVN su_X0_become (by decide) rfl d_X4_kindFor_51 q365 q367 z28 q2 q368 ⟨by decide +kernel, by decide +kernel, by decide +kernel⟩ ⟨by decide, by decide⟩ rfl)))) (ok_nd (ok_lf (ok_ALdn d_X4_kindFor_54 rfl rfl)) (ok_nd (ok_lf (ok_GetR (by decide) (by decide) rfl d_X4_kindFor_55 q155 rfl)) (ok_lf (ok_GetRN (by decide) (by decide) rfl d_X4_kindFor_58 q88 rfl))))) (ok_nd (ok_nd (ok_lf (ok_ILdn d_X4_kindFor_61 rfl rfl)) (ok_nd (ok_lf (ok_AAL (by decide) (by decide) d_X4_kindFor_62 rfl)) (ok_lf (ok_ILd d_X4_kindFor_63 rfl)))) (ok_nd (ok_nd (ok_lf (ok_PutIN (by decide) (by decide) rfl rfl (by decide +kernel) d_X4_kindFor_65 q36 rfl)) (ok_lf (ok_ALdn d_X4_kindFor_68 rfl rfl))) (ok_nd (ok_lf (ok_ILdn d_X4_kindFor_69 rfl rfl)) (ok_lf (ok_ILdn d_X4_kindFor_70 rfl rfl)))))) (ok_nd (ok_nd (ok_nd (ok_lf (ok_CaV su_X4_trialRight (by decide) rfl d_X4_kindFor_71 q408 q410 z32 q1 q411 ⟨by decide +kernel, by decide +kernel, by decide +kernel⟩ ⟨by decide, by decide⟩ rfl)) (ok_nd (ok_lf (ok_ISt d_X4_kindFor_74 rfl)) (ok_lf (ok_ILd d_X4_kindFor_76 rfl)))) (ok_nd (ok_lf (ok_ILd d_X4_kindFor_78 rfl)) (ok_nd (ok_lf (ok_CpLe d_X4_kindFor_80 (by decide) rfl)) (ok_lf (ok_ILd d_X4_kindFor_83 rfl))))) (ok_nd (ok_nd (ok_lf (ok_IStn d_X4_kindFor_85 rfl rfl)) (ok_nd (ok_lf (ok_ILd d_X4_kindFor_86 rfl)) (ok_lf (ok_ISt d_X4_kindFor_88 rfl)))) (ok_nd (ok_nd (ok_lf (ok_Inc d_X4_kindFor_90 (by decide) rfl)) (ok_lf (ok_Go d_X4_kindFor_93 (by decide)))) (ok_nd (ok_lf (ok_ILdn d_X4_kindFor_96 rfl rfl)) (ok_lf (ok_IRet d_X4_kindFor_97)))))))
noncomputable def S_X4_kindFor : Sem := lockS (inl P_X4_kindFor 30000 7) 0
theorem su_X4_kindFor {l : Launch} {G : Gm} : SemU l G yX4_kindFor (wsOf yX4_kindFor cX4_kindFor 7 (some .int)) 7 S_X4_kindFor := sem_lock (sem_inl 30000 (by decide +kernel) rfl ok_X4_kindFor)
theorem d_X4_causeFor_0 : decode cX4_causeFor 0 = .ok (.aload_n 0, 1) := by decide +kernel
theorem d_X4_causeFor_1 : decode cX4_causeFor 1 = .ok (.getfield 12, 3) := by decide +kernel
theorem d_X4_causeFor_4 : decode cX4_causeFor 4 = .ok (.iload_n 1, 1) := by decide +kernel
theorem d_X4_causeFor_5 : decode cX4_causeFor 5 = .ok (.invokevirtual 82, 3) := by decide +kernel
theorem d_X4_causeFor_8 : decode cX4_causeFor 8 = .ok (.ifCond .eq 24, 3) := by decide +kernel
theorem d_X4_causeFor_11 : decode cX4_causeFor 11 = .ok (.iload_n 2, 1) := by decide +kernel
theorem d_X4_causeFor_12 : decode cX4_causeFor 12 = .ok (.iconst 0, 1) := by decide +kernel
theorem d_X4_causeFor_13 : decode cX4_causeFor 13 = .ok (.sipush 9999, 3) := by decide +kernel
theorem d_X4_causeFor_16 : decode cX4_causeFor 16 = .ok (.invokestatic 44, 3) := by decide +kernel
theorem d_X4_causeFor_19 : decode cX4_causeFor 19 = .ok (.ifCond .eq 13, 3) := by decide +kernel
theorem d_X4_causeFor_22 : decode cX4_causeFor 22 = .ok (.iload_n 3, 1) := by decide +kernel
theorem d_X4_causeFor_23 : decode cX4_causeFor 23 = .ok (.iconst 0, 1) := by decide +kernel
theorem d_X4_causeFor_24 : decode cX4_causeFor 24 = .ok (.bipush 40, 2) := by decide +kernel
theorem d_X4_causeFor_26 : decode cX4_causeFor 26 = .ok (.invokestatic 44, 3) := by decide +kernel
theorem d_X4_causeFor_29 : decode cX4_causeFor 29 = .ok (.ifCond .ne 10, 3) := by decide +kernel
theorem d_X4_causeFor_32 : decode cX4_causeFor 32 = .ok (.aload_n 0, 1) := by decide +kernel
theorem d_X4_causeFor_33 : decode cX4_causeFor 33 = .ok (.ldc 55, 2) := by decide +kernel
theorem d_X4_causeFor_35 : decode cX4_causeFor 35 = .ok (.invokevirtual 56, 3) := by decide +kernel
theorem d_X4_causeFor_38 : decode cX4_causeFor 38 = .ok (.ireturn, 1) := by decide +kernel
theorem d_X4_causeFor_39 : decode cX4_causeFor 39 = .ok (.iconst 0, 1) := by decide +kernel
theorem d_X4_causeFor_40 : decode cX4_causeFor 40 = .ok (.istore 4, 2) := by decide +kernel
theorem d_X4_causeFor_42 : decode cX4_causeFor 42 = .ok (.iload 4, 2) := by decide +kernel
theorem d_X4_causeFor_44 : decode cX4_causeFor 44 = .ok (.bipush 99, 2) := by decide +kernel
theorem d_X4_causeFor_46 : decode cX4_causeFor 46 = .ok (.if_icmp .gt 47, 3) := by decide +kernel
theorem d_X4_causeFor_49 : decode cX4_causeFor 49 = .ok (.aload_n 0, 1) := by decide +kernel
theorem d_X4_causeFor_50 : decode cX4_causeFor 50 = .ok (.getfield 16, 3) := by decide +kernel
theorem d_X4_causeFor_53 : decode cX4_causeFor 53 = .ok (.aload_n 0, 1) := by decide +kernel
theorem d_X4_causeFor_54 : decode cX4_causeFor 54 = .ok (.getfield 12, 3) := by decide +kernel
theorem d_X4_causeFor_57 : decode cX4_causeFor 57 = .ok (.invokevirtual 140, 3) := by decide +kernel
theorem d_X4_causeFor_60 : decode cX4_causeFor 60 = .ok (.aload_n 0, 1) := by decide +kernel
theorem d_X4_causeFor_61 : decode cX4_causeFor 61 = .ok (.getfield 16, 3) := by decide +kernel
theorem d_X4_causeFor_64 : decode cX4_causeFor 64 = .ok (.getfield 87, 3) := by decide +kernel
theorem d_X4_causeFor_67 : decode cX4_causeFor 67 = .ok (.iload_n 1, 1) := by decide +kernel
theorem d_X4_causeFor_68 : decode cX4_causeFor 68 = .ok (.aaload, 1) := by decide +kernel
theorem d_X4_causeFor_69 : decode cX4_causeFor 69 = .ok (.iload 4, 2) := by decide +kernel
theorem d_X4_causeFor_71 : decode cX4_causeFor 71 = .ok (.putfield 159, 3) := by decide +kernel
theorem d_X4_causeFor_74 : decode cX4_causeFor 74 = .ok (.aload_n 0, 1) := by decide +kernel
theorem d_X4_causeFor_75 : decode cX4_causeFor 75 = .ok (.iload_n 1, 1) := by decide +kernel
theorem d_X4_causeFor_76 : decode cX4_causeFor 76 = .ok (.iload_n 3, 1) := by decide +kernel
theorem d_X4_causeFor_77 : decode cX4_causeFor 77 = .ok (.invokevirtual 153, 3) := by decide +kernel
theorem d_X4_causeFor_80 : decode cX4_causeFor 80 = .ok (.iload_n 2, 1) := by decide +kernel
theorem d_X4_causeFor_81 : decode cX4_causeFor 81 = .ok (.if_icmp .lt 6, 3) := by decide +kernel
theorem d_X4_causeFor_84 : decode cX4_causeFor 84 = .ok (.iload 4, 2) := by decide +kernel
theorem d_X4_causeFor_86 : decode cX4_causeFor 86 = .ok (.ireturn, 1) := by decide +kernel
theorem d_X4_causeFor_87 : decode cX4_causeFor 87 = .ok (.iinc 4 1, 3) := by decide +kernel
theorem d_X4_causeFor_90 : decode cX4_causeFor 90 = .ok (.goto (-48), 3) := by decide +kernel
theorem d_X4_causeFor_93 : decode cX4_causeFor 93 = .ok (.aload_n 0, 1) := by decide +kernel
theorem d_X4_causeFor_94 : decode cX4_causeFor 94 = .ok (.ldc 115, 2) := by decide +kernel
theorem d_X4_causeFor_96 : decode cX4_causeFor 96 = .ok (.invokevirtual 56, 3) := by decide +kernel
theorem d_X4_causeFor_99 : decode cX4_causeFor 99 = .ok (.ireturn, 1) := by decide +kernel
noncomputable def P_X4_causeFor : Nat → Op := fun pc => nd 50 pc (nd 24 pc (nd 12 pc (nd 5 pc (nd 1 pc (lf 0 pc (oALd 0 1)) (nd 4 pc (lf 1 pc (oGetR 4 0 4)) (lf 4 pc (oILd 1 5)))) (nd 8 pc (lf 5 pc (oCaV 2 0 S_X0_has 8)) (nd 11 pc (lf 8 pc (oIfEq 32 11)) (lf 11 pc (oILd 2 12))))) (nd 19 pc (nd 13 pc (lf 12 pc (oCst 0 13)) (nd 16 pc (lf 13 pc (oCst 9999 16)) (lf 16 pc (oCaS 3 S_X4_isWithin 19)))) (nd 22 pc (lf 19 pc (oIfEq 32 22)) (nd 23 pc (lf 22 pc (oILd 3 23)) (lf 23 pc (oCst 0 24)))))) (nd 38 pc (nd 32 pc (nd 26 pc (lf 24 pc (oCst 40 26)) (nd 29 pc (lf 26 pc (oCaS 3 S_X4_isWithin 29)) (lf 29 pc (oIfEq 32 39)))) (nd 33 pc (lf 32 pc (oALd 0 33)) (nd 35 pc (lf 33 pc (oCst (-1000001) 35)) (lf 35 pc (oCaV 2 4 S_X4_tell 38))))) (nd 42 pc (nd 39 pc (lf 38 pc (oIRet)) (nd 40 pc (lf 39 pc (oCst 0 40)) (lf 40 pc (oISt 4 42)))) (nd 46 pc (nd 44 pc (lf 42 pc (lockO (oILd 4 44) 0)) (lf 44 pc (oCst 99 46))) (nd 49 pc (lf 46 pc (oCpGt 93 49)) (lf 49 pc (oALd 0 50))))))) (nd 75 pc (nd 64 pc (nd 57 pc (nd 53 pc (lf 50 pc (oGetR 4 1 53)) (nd 54 pc (lf 53 pc (oALd 0 54)) (lf 54 pc (oGetR 4 0 57)))) (nd 60 pc (lf 57 pc (oCaV 2 0 S_X0_become 60)) (nd 61 pc (lf 60 pc (oALd 0 61)) (lf 61 pc (oGetR 4 1 64))))) (nd 69 pc (nd 67 pc (lf 64 pc (oGetR 0 8 67)) (nd 68 pc (lf 67 pc (oILd 1 68)) (lf 68 pc (oAAL 7 69)))) (nd 71 pc (lf 69 pc (oILd 4 71)) (nd 74 pc (lf 71 pc (oPutI 1 1 74)) (lf 74 pc (oALd 0 75)))))) (nd 86 pc (nd 80 pc (nd 76 pc (lf 75 pc (oILd 1 76)) (nd 77 pc (lf 76 pc (oILd 3 77)) (lf 77 pc (oCaV 3 4 S_X4_trialRight 80)))) (nd 81 pc (lf 80 pc (oILd 2 81)) (nd 84 pc (lf 81 pc (oCpLt 87 84)) (lf 84 pc (oILd 4 86))))) (nd 93 pc (nd 87 pc (lf 86 pc (oIRet)) (nd 90 pc (lf 87 pc (oInc 4 1 90)) (lf 90 pc (oGo 42)))) (nd 96 pc (nd 94 pc (lf 93 pc (oALd 0 94)) (lf 94 pc (oCst (-1000004) 96))) (nd 99 pc (lf 96 pc (oCaV 2 4 S_X4_tell 99)) (lf 99 pc (oIRet)))))))
theorem ok_X4_causeFor {l : Launch} {G : Gm} : ∀ pc, OkU (TXm l G (rmD 7) 5 cX4_causeFor RX4) (RXm l G (rmD 7) 5 cX4_causeFor RX4 (some .int)) pc (P_X4_causeFor pc) := fun pc => ok_nd (ok_nd (ok_nd (ok_nd (ok_nd (ok_lf (ok_ALdn d_X4_causeFor_0 rfl rfl)) (ok_nd (ok_lf (ok_GetR (by decide) (by decide) rfl d_X4_causeFor_1 q154 rfl)) (ok_lf (ok_ILdn d_X4_causeFor_4 rfl rfl)))) (ok_nd (ok_lf (ok_CaVN su_X0_has (by decide) rfl d_X4_causeFor_5 q227 q229 z4 q2 q230 ⟨by decide +kernel, by decide +kernel, by decide +kernel⟩ ⟨by decide, by decide⟩ rfl)) (ok_nd (ok_lf (ok_IfEq d_X4_causeFor_8 (by decide) rfl)) (ok_lf (ok_ILdn d_X4_causeFor_11 rfl rfl))))) (ok_nd (ok_nd (ok_lf (ok_ICst d_X4_causeFor_12 (by decide) rfl)) (ok_nd (ok_lf (ok_SCst d_X4_causeFor_13 (by decide) rfl)) (ok_lf (ok_CaS su_X4_isWithin d_X4_causeFor_16 q180 q181 q1 q182 ⟨by decide +kernel, by decide +kernel, by decide +kernel⟩ ⟨by decide, by decide⟩ rfl)))) (ok_nd (ok_lf (ok_IfEq d_X4_causeFor_19 (by decide) rfl)) (ok_nd (ok_lf (ok_ILdn d_X4_causeFor_22 rfl rfl)) (ok_lf (ok_ICst d_X4_causeFor_23 (by decide) rfl)))))) (ok_nd (ok_nd (ok_nd (ok_lf (ok_BCst d_X4_causeFor_24 (by decide) rfl)) (ok_nd (ok_lf (ok_CaS su_X4_isWithin d_X4_causeFor_26 q180 q181 q1 q182 ⟨by decide +kernel, by decide +kernel, by decide +kernel⟩ ⟨by decide, by decide⟩ rfl)) (ok_lf (ok_IfNe d_X4_causeFor_29 (by decide) rfl)))) (ok_nd (ok_lf (ok_ALdn d_X4_causeFor_32 rfl rfl)) (ok_nd (ok_lf (ok_Ldc d_X4_causeFor_33 q183 rfl)) (ok_lf (ok_CaV su_X4_tell (by decide) rfl d_X4_causeFor_35 q184 q186 z0 q1 q187 ⟨by decide +kernel, by decide +kernel, by decide +kernel⟩ ⟨by decide, by decide⟩ rfl))))) (ok_nd (ok_nd (ok_lf (ok_IRet d_X4_causeFor_38)) (ok_nd (ok_lf (ok_ICst d_X4_causeFor_39 (by decide) rfl)) (ok_lf (ok_ISt d_X4_causeFor_40 rfl)))) (ok_nd (ok_nd (ok_lf (ok_lk (ok_ILd d_X4_causeFor_42 rfl))) (ok_lf (ok_BCst d_X4_causeFor_44 (by decide) rfl))) (ok_nd (ok_lf (ok_CpGt d_X4_causeFor_46 (by decide) rfl)) (ok_lf (ok_ALdn d_X4_causeFor_49 rfl rfl))))))) (ok_nd (ok_nd (ok_nd (ok_nd (ok_lf (ok_GetR (by decide) (by decide) rfl d_X4_causeFor_50 q155 rfl)) (ok_nd (ok_lf (ok_ALdn d_X4_causeFor_53 rfl rfl)) (ok_lf (ok_GetR (by decide) (by decide) rfl d_X4_causeFor_54 q154 rfl)))) (ok_nd (ok_lf (ok_CaVN su_X0_become (by decide) rfl d_X4_causeFor_57 q365 q367 z28 q2 q368 ⟨by decide +kernel, by decide +kernel, by decide +kernel⟩ ⟨by decide, by decide⟩ rfl)) (ok_nd (ok_lf (ok_ALdn d_X4_causeFor_60 rfl rfl)) (ok_lf (ok_GetR (by decide) (by decide) rfl d_X4_causeFor_61 q155 rfl))))) (ok_nd (ok_nd (ok_lf (ok_GetRN (by decide) (by decide) rfl d_X4_causeFor_64 q88 rfl)) (ok_nd (ok_lf (ok_ILdn d_X4_causeFor_67 rfl rfl)) (ok_lf (ok_AAL (by decide) (by decide) d_X4_causeFor_68 rfl)))) (ok_nd (ok_lf (ok_ILd d_X4_causeFor_69 rfl)) (ok_nd (ok_lf (ok_PutIN (by decide) (by decide) rfl rfl (by decide +kernel) d_X4_causeFor_71 q39 rfl)) (ok_lf (ok_ALdn d_X4_causeFor_74 rfl rfl)))))) (ok_nd (ok_nd (ok_nd (ok_lf (ok_ILdn d_X4_causeFor_75 rfl rfl)) (ok_nd (ok_lf (ok_ILdn d_X4_causeFor_76 rfl rfl)) (ok_lf (ok_CaV su_X4_trialRight (by decide) rfl d_X4_causeFor_77 q408 q410 z32 q1 q411 ⟨by decide +kernel, by decide +kernel, by decide +kernel⟩ ⟨by decide, by decide⟩ rfl)))) (ok_nd (ok_lf (ok_ILdn d_X4_causeFor_80 rfl rfl)) (ok_nd (ok_lf (ok_CpLt d_X4_causeFor_81 (by decide) rfl)) (ok_lf (ok_ILd d_X4_causeFor_84 rfl))))) (ok_nd (ok_nd (ok_lf (ok_IRet d_X4_causeFor_86)) (ok_nd (ok_lf (ok_Inc d_X4_causeFor_87 (by decide) rfl)) (ok_lf (ok_Go d_X4_causeFor_90 (by decide))))) (ok_nd (ok_nd (ok_lf (ok_ALdn d_X4_causeFor_93 rfl rfl)) (ok_lf (ok_Ldc d_X4_causeFor_94 q301 rfl))) (ok_nd (ok_lf (ok_CaV su_X4_tell (by decide) rfl d_X4_causeFor_96 q184 q186 z0 q1 q187 ⟨by decide +kernel, by decide +kernel, by decide +kernel⟩ ⟨by decide, by decide⟩ rfl)) (ok_lf (ok_IRet d_X4_causeFor_99)))))))
noncomputable def S_X4_causeFor : Sem := lockS (inl P_X4_causeFor 30000 5) 0
theorem su_X4_causeFor {l : Launch} {G : Gm} : SemU l G yX4_causeFor (wsOf yX4_causeFor cX4_causeFor 5 (some .int)) 7 S_X4_causeFor := sem_lock (sem_inl 30000 (by decide +kernel) rfl ok_X4_causeFor)
theorem d_X4_against_0 : decode cX4_against 0 = .ok (.aload_n 0, 1) := by decide +kernel
theorem d_X4_against_1 : decode cX4_against 1 = .ok (.getfield 12, 3) := by decide +kernel
theorem d_X4_against_4 : decode cX4_against 4 = .ok (.iload_n 1, 1) := by decide +kernel
theorem d_X4_against_5 : decode cX4_against 5 = .ok (.invokevirtual 82, 3) := by decide +kernel
theorem d_X4_against_8 : decode cX4_against 8 = .ok (.ifCond .eq 13, 3) := by decide +kernel
theorem d_X4_against_11 : decode cX4_against 11 = .ok (.iload_n 2, 1) := by decide +kernel
theorem d_X4_against_12 : decode cX4_against 12 = .ok (.iconst 0, 1) := by decide +kernel
theorem d_X4_against_13 : decode cX4_against 13 = .ok (.bipush 60, 2) := by decide +kernel
theorem d_X4_against_15 : decode cX4_against 15 = .ok (.invokestatic 44, 3) := by decide +kernel
theorem d_X4_against_18 : decode cX4_against 18 = .ok (.ifCond .ne 10, 3) := by decide +kernel
theorem d_X4_against_21 : decode cX4_against 21 = .ok (.aload_n 0, 1) := by decide +kernel
theorem d_X4_against_22 : decode cX4_against 22 = .ok (.ldc 55, 2) := by decide +kernel
theorem d_X4_against_24 : decode cX4_against 24 = .ok (.invokevirtual 56, 3) := by decide +kernel
theorem d_X4_against_27 : decode cX4_against 27 = .ok (.ireturn, 1) := by decide +kernel
theorem d_X4_against_28 : decode cX4_against 28 = .ok (.iconst (-1), 1) := by decide +kernel
theorem d_X4_against_29 : decode cX4_against 29 = .ok (.istore_n 3, 1) := by decide +kernel
theorem d_X4_against_30 : decode cX4_against 30 = .ok (.iconst (-1), 1) := by decide +kernel
theorem d_X4_against_31 : decode cX4_against 31 = .ok (.istore 4, 2) := by decide +kernel
theorem d_X4_against_33 : decode cX4_against 33 = .ok (.iconst 0, 1) := by decide +kernel
theorem d_X4_against_34 : decode cX4_against 34 = .ok (.istore 5, 2) := by decide +kernel
theorem d_X4_against_36 : decode cX4_against 36 = .ok (.iload 5, 2) := by decide +kernel
theorem d_X4_against_38 : decode cX4_against 38 = .ok (.aload_n 0, 1) := by decide +kernel
theorem d_X4_against_39 : decode cX4_against 39 = .ok (.getfield 12, 3) := by decide +kernel
theorem d_X4_against_42 : decode cX4_against 42 = .ok (.getfield 162, 3) := by decide +kernel
theorem d_X4_against_45 : decode cX4_against 45 = .ok (.if_icmp .ge 73, 3) := by decide +kernel
theorem d_X4_against_48 : decode cX4_against 48 = .ok (.iload 5, 2) := by decide +kernel
theorem d_X4_against_50 : decode cX4_against 50 = .ok (.iload_n 1, 1) := by decide +kernel
theorem d_X4_against_51 : decode cX4_against 51 = .ok (.if_icmp .eq 61, 3) := by decide +kernel
theorem d_X4_against_54 : decode cX4_against 54 = .ok (.aload_n 0, 1) := by decide +kernel
theorem d_X4_against_55 : decode cX4_against 55 = .ok (.getfield 16, 3) := by decide +kernel
theorem d_X4_against_58 : decode cX4_against 58 = .ok (.aload_n 0, 1) := by decide +kernel
theorem d_X4_against_59 : decode cX4_against 59 = .ok (.getfield 12, 3) := by decide +kernel
theorem d_X4_against_62 : decode cX4_against 62 = .ok (.invokevirtual 140, 3) := by decide +kernel
theorem d_X4_against_65 : decode cX4_against 65 = .ok (.aload_n 0, 1) := by decide +kernel
theorem d_X4_against_66 : decode cX4_against 66 = .ok (.getfield 16, 3) := by decide +kernel
theorem d_X4_against_69 : decode cX4_against 69 = .ok (.getfield 70, 3) := by decide +kernel
theorem d_X4_against_72 : decode cX4_against 72 = .ok (.aload_n 0, 1) := by decide +kernel
theorem d_X4_against_73 : decode cX4_against 73 = .ok (.getfield 16, 3) := by decide +kernel
theorem d_X4_against_76 : decode cX4_against 76 = .ok (.getfield 91, 3) := by decide +kernel
theorem d_X4_against_79 : decode cX4_against 79 = .ok (.bipush 6, 2) := by decide +kernel
theorem d_X4_against_81 : decode cX4_against 81 = .ok (.irem, 1) := by decide +kernel
theorem d_X4_against_82 : decode cX4_against 82 = .ok (.bipush 10, 2) := by decide +kernel
theorem d_X4_against_84 : decode cX4_against 84 = .ok (.iload_n 1, 1) := by decide +kernel
theorem d_X4_against_85 : decode cX4_against 85 = .ok (.imul, 1) := by decide +kernel
theorem d_X4_against_86 : decode cX4_against 86 = .ok (.iload 5, 2) := by decide +kernel
theorem d_X4_against_88 : decode cX4_against 88 = .ok (.iadd, 1) := by decide +kernel
theorem d_X4_against_89 : decode cX4_against 89 = .ok (.iastore, 1) := by decide +kernel
theorem d_X4_against_90 : decode cX4_against 90 = .ok (.aload_n 0, 1) := by decide +kernel
theorem d_X4_against_91 : decode cX4_against 91 = .ok (.iload_n 1, 1) := by decide +kernel
theorem d_X4_against_92 : decode cX4_against 92 = .ok (.iload_n 2, 1) := by decide +kernel
theorem d_X4_against_93 : decode cX4_against 93 = .ok (.invokevirtual 153, 3) := by decide +kernel
theorem d_X4_against_96 : decode cX4_against 96 = .ok (.istore 6, 2) := by decide +kernel
theorem d_X4_against_98 : decode cX4_against 98 = .ok (.iload 6, 2) := by decide +kernel
theorem d_X4_against_100 : decode cX4_against 100 = .ok (.iload 4, 2) := by decide +kernel
theorem d_X4_against_102 : decode cX4_against 102 = .ok (.if_icmp .le 10, 3) := by decide +kernel
theorem d_X4_against_105 : decode cX4_against 105 = .ok (.iload 5, 2) := by decide +kernel
theorem d_X4_against_107 : decode cX4_against 107 = .ok (.istore_n 3, 1) := by decide +kernel
theorem d_X4_against_108 : decode cX4_against 108 = .ok (.iload 6, 2) := by decide +kernel
theorem d_X4_against_110 : decode cX4_against 110 = .ok (.istore 4, 2) := by decide +kernel
theorem d_X4_against_112 : decode cX4_against 112 = .ok (.iinc 5 1, 3) := by decide +kernel
theorem d_X4_against_115 : decode cX4_against 115 = .ok (.goto (-79), 3) := by decide +kernel
theorem d_X4_against_118 : decode cX4_against 118 = .ok (.iload_n 3, 1) := by decide +kernel
theorem d_X4_against_119 : decode cX4_against 119 = .ok (.iconst (-1), 1) := by decide +kernel
theorem d_X4_against_120 : decode cX4_against 120 = .ok (.if_icmp .ne 12, 3) := by decide +kernel
theorem d_X4_against_123 : decode cX4_against 123 = .ok (.aload_n 0, 1) := by decide +kernel
theorem d_X4_against_124 : decode cX4_against 124 = .ok (.ldc 115, 2) := by decide +kernel
theorem d_X4_against_126 : decode cX4_against 126 = .ok (.invokevirtual 56, 3) := by decide +kernel
theorem d_X4_against_129 : decode cX4_against 129 = .ok (.goto 4, 3) := by decide +kernel
theorem d_X4_against_132 : decode cX4_against 132 = .ok (.iload_n 3, 1) := by decide +kernel
theorem d_X4_against_133 : decode cX4_against 133 = .ok (.ireturn, 1) := by decide +kernel
noncomputable def P_X4_against : Nat → Op := fun pc => nd 69 pc (nd 31 pc (nd 15 pc (nd 8 pc (nd 4 pc (nd 1 pc (lf 0 pc (oALd 0 1)) (lf 1 pc (oGetR 4 0 4))) (nd 5 pc (lf 4 pc (oILd 1 5)) (lf 5 pc (oCaV 2 0 S_X0_has 8)))) (nd 12 pc (nd 11 pc (lf 8 pc (oIfEq 21 11)) (lf 11 pc (oILd 2 12))) (nd 13 pc (lf 12 pc (oCst 0 13)) (lf 13 pc (oCst 60 15))))) (nd 24 pc (nd 21 pc (nd 18 pc (lf 15 pc (oCaS 3 S_X4_isWithin 18)) (lf 18 pc (oIfEq 21 28))) (nd 22 pc (lf 21 pc (oALd 0 22)) (lf 22 pc (oCst (-1000001) 24)))) (nd 28 pc (nd 27 pc (lf 24 pc (oCaV 2 4 S_X4_tell 27)) (lf 27 pc (oIRet))) (nd 29 pc (lf 28 pc (oCst (-1) 29)) (nd 30 pc (lf 29 pc (oISt 3 30)) (lf 30 pc (oCst (-1) 31))))))) (nd 50 pc (nd 38 pc (nd 34 pc (nd 33 pc (lf 31 pc (oISt 4 33)) (lf 33 pc (oCst 0 34))) (nd 36 pc (lf 34 pc (oISt 5 36)) (lf 36 pc (lockO (oILd 5 38) 0)))) (nd 42 pc (nd 39 pc (lf 38 pc (oALd 0 39)) (lf 39 pc (oGetR 4 0 42))) (nd 45 pc (lf 42 pc (oGetI 0 7 45)) (nd 48 pc (lf 45 pc (oCpLt 48 118)) (lf 48 pc (oILd 5 50)))))) (nd 58 pc (nd 54 pc (nd 51 pc (lf 50 pc (oILd 1 51)) (lf 51 pc (oCpEq 112 54))) (nd 55 pc (lf 54 pc (oALd 0 55)) (lf 55 pc (oGetR 4 1 58)))) (nd 62 pc (nd 59 pc (lf 58 pc (oALd 0 59)) (lf 59 pc (oGetR 4 0 62))) (nd 65 pc (lf 62 pc (oCaV 2 0 S_X0_become 65)) (nd 66 pc (lf 65 pc (oALd 0 66)) (lf 66 pc (oGetR 4 1 69)))))))) (nd 98 pc (nd 85 pc (nd 79 pc (nd 73 pc (nd 72 pc (lf 69 pc (oGetR 0 5 72)) (lf 72 pc (oALd 0 73))) (nd 76 pc (lf 73 pc (oGetR 4 1 76)) (lf 76 pc (oGetI 0 3 79)))) (nd 82 pc (nd 81 pc (lf 79 pc (oCst 6 81)) (lf 81 pc (oDiv (fun x y => x % y) 82))) (nd 84 pc (lf 82 pc (oCst 10 84)) (lf 84 pc (oILd 1 85))))) (nd 90 pc (nd 88 pc (nd 86 pc (lf 85 pc (oBin (fun x y => x * y) 86)) (lf 86 pc (oILd 5 88))) (nd 89 pc (lf 88 pc (oBin (fun x y => x + y) 89)) (lf 89 pc (oIAS 90)))) (nd 92 pc (nd 91 pc (lf 90 pc (oALd 0 91)) (lf 91 pc (oILd 1 92))) (nd 93 pc (lf 92 pc (oILd 2 93)) (nd 96 pc (lf 93 pc (oCaV 3 4 S_X4_trialRight 96)) (lf 96 pc (oISt 6 98))))))) (nd 118 pc (nd 107 pc (nd 102 pc (nd 100 pc (lf 98 pc (oILd 6 100)) (lf 100 pc (oILd 4 102))) (nd 105 pc (lf 102 pc (oCpGt 105 112)) (lf 105 pc (oILd 5 107)))) (nd 110 pc (nd 108 pc (lf 107 pc (oISt 3 108)) (lf 108 pc (oILd 6 110))) (nd 112 pc (lf 110 pc (oISt 4 112)) (nd 115 pc (lf 112 pc (oInc 5 1 115)) (lf 115 pc (oGo 36)))))) (nd 124 pc (nd 120 pc (nd 119 pc (lf 118 pc (oILd 3 119)) (lf 119 pc (oCst (-1) 120))) (nd 123 pc (lf 120 pc (oCpEq 123 132)) (lf 123 pc (oALd 0 124)))) (nd 129 pc (nd 126 pc (lf 124 pc (oCst (-1000004) 126)) (lf 126 pc (oCaV 2 4 S_X4_tell 129))) (nd 132 pc (lf 129 pc (oGo 133)) (nd 133 pc (lf 132 pc (oILd 3 133)) (lf 133 pc (oIRet))))))))
theorem ok_X4_against {l : Launch} {G : Gm} : ∀ pc, OkU (TXm l G (rmD 7) 7 cX4_against RX4) (RXm l G (rmD 7) 7 cX4_against RX4 (some .int)) pc (P_X4_against pc) := fun pc => ok_nd (ok_nd (ok_nd (ok_nd (ok_nd (ok_nd (ok_lf (ok_ALdn d_X4_against_0 rfl rfl)) (ok_lf (ok_GetR (by decide) (by decide) rfl d_X4_against_1 q154 rfl))) (ok_nd (ok_lf (ok_ILdn d_X4_against_4 rfl rfl)) (ok_lf (ok_CaVN su_X0_has (by decide) rfl d_X4_against_5 q227 q229 z4 q2 q230 ⟨by decide +kernel, by decide +kernel, by decide +kernel⟩ ⟨by decide, by decide⟩ rfl)))) (ok_nd (ok_nd (ok_lf (ok_IfEq d_X4_against_8 (by decide) rfl)) (ok_lf (ok_ILdn d_X4_against_11 rfl rfl))) (ok_nd (ok_lf (ok_ICst d_X4_against_12 (by decide) rfl)) (ok_lf (ok_BCst d_X4_against_13 (by decide) rfl))))) (ok_nd (ok_nd (ok_nd (ok_lf (ok_CaS su_X4_isWithin d_X4_against_15 q180 q181 q1 q182 ⟨by decide +kernel, by decide +kernel, by decide +kernel⟩ ⟨by decide, by decide⟩ rfl)) (ok_lf (ok_IfNe d_X4_against_18 (by decide) rfl))) (ok_nd (ok_lf (ok_ALdn d_X4_against_21 rfl rfl)) (ok_lf (ok_Ldc d_X4_against_22 q183 rfl)))) (ok_nd (ok_nd (ok_lf (ok_CaV su_X4_tell (by decide) rfl d_X4_against_24 q184 q186 z0 q1 q187 ⟨by decide +kernel, by decide +kernel, by decide +kernel⟩ ⟨by decide, by decide⟩ rfl)) (ok_lf (ok_IRet d_X4_against_27))) (ok_nd (ok_lf (ok_ICst d_X4_against_28 (by decide) rfl)) (ok_nd (ok_lf (ok_IStn d_X4_against_29 rfl rfl)) (ok_lf (ok_ICst d_X4_against_30 (by decide) rfl))))))) (ok_nd (ok_nd (ok_nd (ok_nd (ok_lf (ok_ISt d_X4_against_31 rfl)) (ok_lf (ok_ICst d_X4_against_33 (by decide) rfl))) (ok_nd (ok_lf (ok_ISt d_X4_against_34 rfl)) (ok_lf (ok_lk (ok_ILd d_X4_against_36 rfl))))) (ok_nd (ok_nd (ok_lf (ok_ALdn d_X4_against_38 rfl rfl)) (ok_lf (ok_GetR (by decide) (by decide) rfl d_X4_against_39 q154 rfl))) (ok_nd (ok_lf (ok_GetIN (by decide) (by decide) rfl d_X4_against_42 q85 rfl)) (ok_nd (ok_lf (ok_CpGe d_X4_against_45 (by decide) rfl)) (ok_lf (ok_ILd d_X4_against_48 rfl)))))) (ok_nd (ok_nd (ok_nd (ok_lf (ok_ILdn d_X4_against_50 rfl rfl)) (ok_lf (ok_CpEq d_X4_against_51 (by decide) rfl))) (ok_nd (ok_lf (ok_ALdn d_X4_against_54 rfl rfl)) (ok_lf (ok_GetR (by decide) (by decide) rfl d_X4_against_55 q155 rfl)))) (ok_nd (ok_nd (ok_lf (ok_ALdn d_X4_against_58 rfl rfl)) (ok_lf (ok_GetR (by decide) (by decide) rfl d_X4_against_59 q154 rfl))) (ok_nd (ok_lf (ok_CaVN su_X0_become (by decide) rfl d_X4_against_62 q365 q367 z28 q2 q368 ⟨by decide +kernel, by decide +kernel, by decide +kernel⟩ ⟨by decide, by decide⟩ rfl)) (ok_nd (ok_lf (ok_ALdn d_X4_against_65 rfl rfl)) (ok_lf (ok_GetR (by decide) (by decide) rfl d_X4_against_66 q155 rfl)))))))) (ok_nd (ok_nd (ok_nd (ok_nd (ok_nd (ok_lf (ok_GetRN (by decide) (by decide) rfl d_X4_against_69 q80 rfl)) (ok_lf (ok_ALdn d_X4_against_72 rfl rfl))) (ok_nd (ok_lf (ok_GetR (by decide) (by decide) rfl d_X4_against_73 q155 rfl)) (ok_lf (ok_GetIN (by decide) (by decide) rfl d_X4_against_76 q76 rfl)))) (ok_nd (ok_nd (ok_lf (ok_BCst d_X4_against_79 (by decide) rfl)) (ok_lf (ok_irem d_X4_against_81 rfl))) (ok_nd (ok_lf (ok_BCst d_X4_against_82 (by decide) rfl)) (ok_lf (ok_ILdn d_X4_against_84 rfl rfl))))) (ok_nd (ok_nd (ok_nd (ok_lf (ok_imul d_X4_against_85 rfl)) (ok_lf (ok_ILd d_X4_against_86 rfl))) (ok_nd (ok_lf (ok_iadd d_X4_against_88 rfl)) (ok_lf (ok_IAS d_X4_against_89 rfl)))) (ok_nd (ok_nd (ok_lf (ok_ALdn d_X4_against_90 rfl rfl)) (ok_lf (ok_ILdn d_X4_against_91 rfl rfl))) (ok_nd (ok_lf (ok_ILdn d_X4_against_92 rfl rfl)) (ok_nd (ok_lf (ok_CaV su_X4_trialRight (by decide) rfl d_X4_against_93 q408 q410 z32 q1 q411 ⟨by decide +kernel, by decide +kernel, by decide +kernel⟩ ⟨by decide, by decide⟩ rfl)) (ok_lf (ok_ISt d_X4_against_96 rfl))))))) (ok_nd (ok_nd (ok_nd (ok_nd (ok_lf (ok_ILd d_X4_against_98 rfl)) (ok_lf (ok_ILd d_X4_against_100 rfl))) (ok_nd (ok_lf (ok_CpLe d_X4_against_102 (by decide) rfl)) (ok_lf (ok_ILd d_X4_against_105 rfl)))) (ok_nd (ok_nd (ok_lf (ok_IStn d_X4_against_107 rfl rfl)) (ok_lf (ok_ILd d_X4_against_108 rfl))) (ok_nd (ok_lf (ok_ISt d_X4_against_110 rfl)) (ok_nd (ok_lf (ok_Inc d_X4_against_112 (by decide) rfl)) (ok_lf (ok_Go d_X4_against_115 (by decide))))))) (ok_nd (ok_nd (ok_nd (ok_lf (ok_ILdn d_X4_against_118 rfl rfl)) (ok_lf (ok_ICst d_X4_against_119 (by decide) rfl))) (ok_nd (ok_lf (ok_CpNe d_X4_against_120 (by decide) rfl)) (ok_lf (ok_ALdn d_X4_against_123 rfl rfl)))) (ok_nd (ok_nd (ok_lf (ok_Ldc d_X4_against_124 q301 rfl)) (ok_lf (ok_CaV su_X4_tell (by decide) rfl d_X4_against_126 q184 q186 z0 q1 q187 ⟨by decide +kernel, by decide +kernel, by decide +kernel⟩ ⟨by decide, by decide⟩ rfl))) (ok_nd (ok_lf (ok_Go d_X4_against_129 (by decide))) (ok_nd (ok_lf (ok_ILdn d_X4_against_132 rfl rfl)) (ok_lf (ok_IRet d_X4_against_133))))))))
noncomputable def S_X4_against : Sem := lockS (inl P_X4_against 30000 7) 0
theorem su_X4_against {l : Launch} {G : Gm} : SemU l G yX4_against (wsOf yX4_against cX4_against 7 (some .int)) 7 S_X4_against := sem_lock (sem_inl 30000 (by decide +kernel) rfl ok_X4_against)
theorem d_X4_silence_0 : decode cX4_silence 0 = .ok (.aload_n 0, 1) := by decide +kernel
theorem d_X4_silence_1 : decode cX4_silence 1 = .ok (.getfield 12, 3) := by decide +kernel
theorem d_X4_silence_4 : decode cX4_silence 4 = .ok (.iload_n 1, 1) := by decide +kernel
theorem d_X4_silence_5 : decode cX4_silence 5 = .ok (.invokevirtual 82, 3) := by decide +kernel
theorem d_X4_silence_8 : decode cX4_silence 8 = .ok (.ifCond .eq 13, 3) := by decide +kernel
theorem d_X4_silence_11 : decode cX4_silence 11 = .ok (.iload_n 2, 1) := by decide +kernel
theorem d_X4_silence_12 : decode cX4_silence 12 = .ok (.iconst 0, 1) := by decide +kernel
theorem d_X4_silence_13 : decode cX4_silence 13 = .ok (.bipush 20, 2) := by decide +kernel
theorem d_X4_silence_15 : decode cX4_silence 15 = .ok (.invokestatic 44, 3) := by decide +kernel
theorem d_X4_silence_18 : decode cX4_silence 18 = .ok (.ifCond .ne 10, 3) := by decide +kernel
theorem d_X4_silence_21 : decode cX4_silence 21 = .ok (.aload_n 0, 1) := by decide +kernel
theorem d_X4_silence_22 : decode cX4_silence 22 = .ok (.ldc 55, 2) := by decide +kernel
theorem d_X4_silence_24 : decode cX4_silence 24 = .ok (.invokevirtual 56, 3) := by decide +kernel
theorem d_X4_silence_27 : decode cX4_silence 27 = .ok (.ireturn, 1) := by decide +kernel
theorem d_X4_silence_28 : decode cX4_silence 28 = .ok (.iconst 1, 1) := by decide +kernel
theorem d_X4_silence_29 : decode cX4_silence 29 = .ok (.aload_n 0, 1) := by decide +kernel
theorem d_X4_silence_30 : decode cX4_silence 30 = .ok (.getfield 12, 3) := by decide +kernel
theorem d_X4_silence_33 : decode cX4_silence 33 = .ok (.getfield 162, 3) := by decide +kernel
theorem d_X4_silence_36 : decode cX4_silence 36 = .ok (.ishl, 1) := by decide +kernel
theorem d_X4_silence_37 : decode cX4_silence 37 = .ok (.istore_n 3, 1) := by decide +kernel
theorem d_X4_silence_38 : decode cX4_silence 38 = .ok (.iconst 0, 1) := by decide +kernel
theorem d_X4_silence_39 : decode cX4_silence 39 = .ok (.istore 4, 2) := by decide +kernel
theorem d_X4_silence_41 : decode cX4_silence 41 = .ok (.iload 4, 2) := by decide +kernel
theorem d_X4_silence_43 : decode cX4_silence 43 = .ok (.aload_n 0, 1) := by decide +kernel
theorem d_X4_silence_44 : decode cX4_silence 44 = .ok (.getfield 12, 3) := by decide +kernel
theorem d_X4_silence_47 : decode cX4_silence 47 = .ok (.getfield 162, 3) := by decide +kernel
theorem d_X4_silence_50 : decode cX4_silence 50 = .ok (.if_icmp .ge 87, 3) := by decide +kernel
theorem d_X4_silence_53 : decode cX4_silence 53 = .ok (.iconst 0, 1) := by decide +kernel
theorem d_X4_silence_54 : decode cX4_silence 54 = .ok (.istore 5, 2) := by decide +kernel
theorem d_X4_silence_56 : decode cX4_silence 56 = .ok (.iload 5, 2) := by decide +kernel
theorem d_X4_silence_58 : decode cX4_silence 58 = .ok (.iload_n 3, 1) := by decide +kernel
theorem d_X4_silence_59 : decode cX4_silence 59 = .ok (.if_icmp .ge 72, 3) := by decide +kernel
theorem d_X4_silence_62 : decode cX4_silence 62 = .ok (.iload 5, 2) := by decide +kernel
theorem d_X4_silence_64 : decode cX4_silence 64 = .ok (.iload_n 1, 1) := by decide +kernel
theorem d_X4_silence_65 : decode cX4_silence 65 = .ok (.ishr, 1) := by decide +kernel
theorem d_X4_silence_66 : decode cX4_silence 66 = .ok (.iconst 1, 1) := by decide +kernel
theorem d_X4_silence_67 : decode cX4_silence 67 = .ok (.iand, 1) := by decide +kernel
theorem d_X4_silence_68 : decode cX4_silence 68 = .ok (.ifCond .ne 7, 3) := by decide +kernel
theorem d_X4_silence_71 : decode cX4_silence 71 = .ok (.iconst 1, 1) := by decide +kernel
theorem d_X4_silence_72 : decode cX4_silence 72 = .ok (.goto 4, 3) := by decide +kernel
theorem d_X4_silence_75 : decode cX4_silence 75 = .ok (.iconst 0, 1) := by decide +kernel
theorem d_X4_silence_76 : decode cX4_silence 76 = .ok (.istore 6, 2) := by decide +kernel
theorem d_X4_silence_78 : decode cX4_silence 78 = .ok (.iload 6, 2) := by decide +kernel
theorem d_X4_silence_80 : decode cX4_silence 80 = .ok (.ifCond .eq 45, 3) := by decide +kernel
theorem d_X4_silence_83 : decode cX4_silence 83 = .ok (.iload 5, 2) := by decide +kernel
theorem d_X4_silence_85 : decode cX4_silence 85 = .ok (.invokestatic 165, 3) := by decide +kernel
theorem d_X4_silence_88 : decode cX4_silence 88 = .ok (.iload 4, 2) := by decide +kernel
theorem d_X4_silence_90 : decode cX4_silence 90 = .ok (.if_icmp .ne 35, 3) := by decide +kernel
theorem d_X4_silence_93 : decode cX4_silence 93 = .ok (.aload_n 0, 1) := by decide +kernel
theorem d_X4_silence_94 : decode cX4_silence 94 = .ok (.getfield 16, 3) := by decide +kernel
theorem d_X4_silence_97 : decode cX4_silence 97 = .ok (.aload_n 0, 1) := by decide +kernel
theorem d_X4_silence_98 : decode cX4_silence 98 = .ok (.getfield 12, 3) := by decide +kernel
theorem d_X4_silence_101 : decode cX4_silence 101 = .ok (.invokevirtual 140, 3) := by decide +kernel
theorem d_X4_silence_104 : decode cX4_silence 104 = .ok (.aload_n 0, 1) := by decide +kernel
theorem d_X4_silence_105 : decode cX4_silence 105 = .ok (.getfield 16, 3) := by decide +kernel
theorem d_X4_silence_108 : decode cX4_silence 108 = .ok (.iload 5, 2) := by decide +kernel
theorem d_X4_silence_110 : decode cX4_silence 110 = .ok (.invokevirtual 170, 3) := by decide +kernel
theorem d_X4_silence_113 : decode cX4_silence 113 = .ok (.aload_n 0, 1) := by decide +kernel
theorem d_X4_silence_114 : decode cX4_silence 114 = .ok (.iload_n 1, 1) := by decide +kernel
theorem d_X4_silence_115 : decode cX4_silence 115 = .ok (.iload_n 2, 1) := by decide +kernel
theorem d_X4_silence_116 : decode cX4_silence 116 = .ok (.invokevirtual 150, 3) := by decide +kernel
theorem d_X4_silence_119 : decode cX4_silence 119 = .ok (.ifCond .eq 6, 3) := by decide +kernel
theorem d_X4_silence_122 : decode cX4_silence 122 = .ok (.iload 5, 2) := by decide +kernel
theorem d_X4_silence_124 : decode cX4_silence 124 = .ok (.ireturn, 1) := by decide +kernel
theorem d_X4_silence_125 : decode cX4_silence 125 = .ok (.iinc 5 1, 3) := by decide +kernel
theorem d_X4_silence_128 : decode cX4_silence 128 = .ok (.goto (-72), 3) := by decide +kernel
theorem d_X4_silence_131 : decode cX4_silence 131 = .ok (.iinc 4 1, 3) := by decide +kernel
theorem d_X4_silence_134 : decode cX4_silence 134 = .ok (.goto (-93), 3) := by decide +kernel
theorem d_X4_silence_137 : decode cX4_silence 137 = .ok (.aload_n 0, 1) := by decide +kernel
theorem d_X4_silence_138 : decode cX4_silence 138 = .ok (.ldc 115, 2) := by decide +kernel
theorem d_X4_silence_140 : decode cX4_silence 140 = .ok (.invokevirtual 56, 3) := by decide +kernel
theorem d_X4_silence_143 : decode cX4_silence 143 = .ok (.ireturn, 1) := by decide +kernel
noncomputable def P_X4_silence : Nat → Op := fun pc => nd 67 pc (nd 36 pc (nd 18 pc (nd 8 pc (nd 4 pc (nd 1 pc (lf 0 pc (oALd 0 1)) (lf 1 pc (oGetR 4 0 4))) (nd 5 pc (lf 4 pc (oILd 1 5)) (lf 5 pc (oCaV 2 0 S_X0_has 8)))) (nd 12 pc (nd 11 pc (lf 8 pc (oIfEq 21 11)) (lf 11 pc (oILd 2 12))) (nd 13 pc (lf 12 pc (oCst 0 13)) (nd 15 pc (lf 13 pc (oCst 20 15)) (lf 15 pc (oCaS 3 S_X4_isWithin 18)))))) (nd 27 pc (nd 22 pc (nd 21 pc (lf 18 pc (oIfEq 21 28)) (lf 21 pc (oALd 0 22))) (nd 24 pc (lf 22 pc (oCst (-1000001) 24)) (lf 24 pc (oCaV 2 4 S_X4_tell 27)))) (nd 29 pc (nd 28 pc (lf 27 pc (oIRet)) (lf 28 pc (oCst 1 29))) (nd 30 pc (lf 29 pc (oALd 0 30)) (nd 33 pc (lf 30 pc (oGetR 4 0 33)) (lf 33 pc (oGetI 0 7 36))))))) (nd 53 pc (nd 41 pc (nd 38 pc (nd 37 pc (lf 36 pc (oBin (fun x y => x <<< (y &&& 31)) 37)) (lf 37 pc (oISt 3 38))) (nd 39 pc (lf 38 pc (oCst 0 39)) (lf 39 pc (oISt 4 41)))) (nd 44 pc (nd 43 pc (lf 41 pc (lockO (oILd 4 43) 0)) (lf 43 pc (oALd 0 44))) (nd 47 pc (lf 44 pc (oGetR 4 0 47)) (nd 50 pc (lf 47 pc (oGetI 0 7 50)) (lf 50 pc (oCpLt 53 137)))))) (nd 59 pc (nd 56 pc (nd 54 pc (lf 53 pc (oCst 0 54)) (lf 54 pc (oISt 5 56))) (nd 58 pc (lf 56 pc (lockO (oILd 5 58) 0)) (lf 58 pc (oILd 3 59)))) (nd 64 pc (nd 62 pc (lf 59 pc (oCpLt 62 131)) (lf 62 pc (oILd 5 64))) (nd 65 pc (lf 64 pc (oILd 1 65)) (nd 66 pc (lf 65 pc (oBin (fun x y => x >>> (y &&& 31)) 66)) (lf 66 pc (oCst 1 67)))))))) (nd 105 pc (nd 85 pc (nd 75 pc (nd 71 pc (nd 68 pc (lf 67 pc (oBin (fun x y => x &&& y) 68)) (lf 68 pc (oIfEq 71 75))) (nd 72 pc (lf 71 pc (oCst 1 72)) (lf 72 pc (oGo 76)))) (nd 78 pc (nd 76 pc (lf 75 pc (oCst 0 76)) (lf 76 pc (oISt 6 78))) (nd 80 pc (lf 78 pc (oILd 6 80)) (nd 83 pc (lf 80 pc (oIfEq 125 83)) (lf 83 pc (oILd 5 85)))))) (nd 94 pc (nd 90 pc (nd 88 pc (lf 85 pc (oCaS 1 S_J6_bitCount_0f7a4 88)) (lf 88 pc (oILd 4 90))) (nd 93 pc (lf 90 pc (oCpEq 93 125)) (lf 93 pc (oALd 0 94)))) (nd 98 pc (nd 97 pc (lf 94 pc (oGetR 4 1 97)) (lf 97 pc (oALd 0 98))) (nd 101 pc (lf 98 pc (oGetR 4 0 101)) (nd 104 pc (lf 101 pc (oCaV 2 0 S_X0_become 104)) (lf 104 pc (oALd 0 105))))))) (nd 124 pc (nd 114 pc (nd 110 pc (nd 108 pc (lf 105 pc (oGetR 4 1 108)) (lf 108 pc (oILd 5 110))) (nd 113 pc (lf 110 pc (oCaV 2 0 S_X0_hush 113)) (lf 113 pc (oALd 0 114)))) (nd 116 pc (nd 115 pc (lf 114 pc (oILd 1 115)) (lf 115 pc (oILd 2 116))) (nd 119 pc (lf 116 pc (oCaV 3 4 S_X4_trialLeavesWrong 119)) (nd 122 pc (lf 119 pc (oIfEq 125 122)) (lf 122 pc (oILd 5 124)))))) (nd 134 pc (nd 128 pc (nd 125 pc (lf 124 pc (oIRet)) (lf 125 pc (oInc 5 1 128))) (nd 131 pc (lf 128 pc (oGo 56)) (lf 131 pc (oInc 4 1 134)))) (nd 138 pc (nd 137 pc (lf 134 pc (oGo 41)) (lf 137 pc (oALd 0 138))) (nd 140 pc (lf 138 pc (oCst (-1000004) 140)) (nd 143 pc (lf 140 pc (oCaV 2 4 S_X4_tell 143)) (lf 143 pc (oIRet))))))))
theorem ok_X4_silence {l : Launch} {G : Gm} : ∀ pc, OkU (TXm l G (rmD 7) 7 cX4_silence RX4) (RXm l G (rmD 7) 7 cX4_silence RX4 (some .int)) pc (P_X4_silence pc) := fun pc => ok_nd (ok_nd (ok_nd (ok_nd (ok_nd (ok_nd (ok_lf (ok_ALdn d_X4_silence_0 rfl rfl)) (ok_lf (ok_GetR (by decide) (by decide) rfl d_X4_silence_1 q154 rfl))) (ok_nd (ok_lf (ok_ILdn d_X4_silence_4 rfl rfl)) (ok_lf (ok_CaVN su_X0_has (by decide) rfl d_X4_silence_5 q227 q229 z4 q2 q230 ⟨by decide +kernel, by decide +kernel, by decide +kernel⟩ ⟨by decide, by decide⟩ rfl)))) (ok_nd (ok_nd (ok_lf (ok_IfEq d_X4_silence_8 (by decide) rfl)) (ok_lf (ok_ILdn d_X4_silence_11 rfl rfl))) (ok_nd (ok_lf (ok_ICst d_X4_silence_12 (by decide) rfl)) (ok_nd (ok_lf (ok_BCst d_X4_silence_13 (by decide) rfl)) (ok_lf (ok_CaS su_X4_isWithin d_X4_silence_15 q180 q181 q1 q182 ⟨by decide +kernel, by decide +kernel, by decide +kernel⟩ ⟨by decide, by decide⟩ rfl)))))) (ok_nd (ok_nd (ok_nd (ok_lf (ok_IfNe d_X4_silence_18 (by decide) rfl)) (ok_lf (ok_ALdn d_X4_silence_21 rfl rfl))) (ok_nd (ok_lf (ok_Ldc d_X4_silence_22 q183 rfl)) (ok_lf (ok_CaV su_X4_tell (by decide) rfl d_X4_silence_24 q184 q186 z0 q1 q187 ⟨by decide +kernel, by decide +kernel, by decide +kernel⟩ ⟨by decide, by decide⟩ rfl)))) (ok_nd (ok_nd (ok_lf (ok_IRet d_X4_silence_27)) (ok_lf (ok_ICst d_X4_silence_28 (by decide) rfl))) (ok_nd (ok_lf (ok_ALdn d_X4_silence_29 rfl rfl)) (ok_nd (ok_lf (ok_GetR (by decide) (by decide) rfl d_X4_silence_30 q154 rfl)) (ok_lf (ok_GetIN (by decide) (by decide) rfl d_X4_silence_33 q85 rfl))))))) (ok_nd (ok_nd (ok_nd (ok_nd (ok_lf (ok_ishl d_X4_silence_36 rfl)) (ok_lf (ok_IStn d_X4_silence_37 rfl rfl))) (ok_nd (ok_lf (ok_ICst d_X4_silence_38 (by decide) rfl)) (ok_lf (ok_ISt d_X4_silence_39 rfl)))) (ok_nd (ok_nd (ok_lf (ok_lk (ok_ILd d_X4_silence_41 rfl))) (ok_lf (ok_ALdn d_X4_silence_43 rfl rfl))) (ok_nd (ok_lf (ok_GetR (by decide) (by decide) rfl d_X4_silence_44 q154 rfl)) (ok_nd (ok_lf (ok_GetIN (by decide) (by decide) rfl d_X4_silence_47 q85 rfl)) (ok_lf (ok_CpGe d_X4_silence_50 (by decide) rfl)))))) (ok_nd (ok_nd (ok_nd (ok_lf (ok_ICst d_X4_silence_53 (by decide) rfl)) (ok_lf (ok_ISt d_X4_silence_54 rfl))) (ok_nd (ok_lf (ok_lk (ok_ILd d_X4_silence_56 rfl))) (ok_lf (ok_ILdn d_X4_silence_58 rfl rfl)))) (ok_nd (ok_nd (ok_lf (ok_CpGe d_X4_silence_59 (by decide) rfl)) (ok_lf (ok_ILd d_X4_silence_62 rfl))) (ok_nd (ok_lf (ok_ILdn d_X4_silence_64 rfl rfl)) (ok_nd (ok_lf (ok_ishr d_X4_silence_65 rfl)) (ok_lf (ok_ICst d_X4_silence_66 (by decide) rfl)))))))) (ok_nd (ok_nd (ok_nd (ok_nd (ok_nd (ok_lf (ok_iand d_X4_silence_67 rfl)) (ok_lf (ok_IfNe d_X4_silence_68 (by decide) rfl))) (ok_nd (ok_lf (ok_ICst d_X4_silence_71 (by decide) rfl)) (ok_lf (ok_Go d_X4_silence_72 (by decide))))) (ok_nd (ok_nd (ok_lf (ok_ICst d_X4_silence_75 (by decide) rfl)) (ok_lf (ok_ISt d_X4_silence_76 rfl))) (ok_nd (ok_lf (ok_ILd d_X4_silence_78 rfl)) (ok_nd (ok_lf (ok_IfEq d_X4_silence_80 (by decide) rfl)) (ok_lf (ok_ILd d_X4_silence_83 rfl)))))) (ok_nd (ok_nd (ok_nd (ok_lf (ok_CaS su_J6_bitCount_0f7a4 d_X4_silence_85 q428 q429 q9 q430 ⟨by decide +kernel, by decide +kernel, by decide +kernel⟩ ⟨by decide, by decide⟩ rfl)) (ok_lf (ok_ILd d_X4_silence_88 rfl))) (ok_nd (ok_lf (ok_CpNe d_X4_silence_90 (by decide) rfl)) (ok_lf (ok_ALdn d_X4_silence_93 rfl rfl)))) (ok_nd (ok_nd (ok_lf (ok_GetR (by decide) (by decide) rfl d_X4_silence_94 q155 rfl)) (ok_lf (ok_ALdn d_X4_silence_97 rfl rfl))) (ok_nd (ok_lf (ok_GetR (by decide) (by decide) rfl d_X4_silence_98 q154 rfl)) (ok_nd (ok_lf (ok_CaVN su_X0_become (by decide) rfl d_X4_silence_101 q365 q367 z28 q2 q368 ⟨by decide +kernel, by decide +kernel, by decide +kernel⟩ ⟨by decide, by decide⟩ rfl)) (ok_lf (ok_ALdn d_X4_silence_104 rfl rfl))))))) (ok_nd (ok_nd (ok_nd (ok_nd (ok_lf (ok_GetR (by decide) (by decide) rfl d_X4_silence_105 q155 rfl)) (ok_lf (ok_ILd d_X4_silence_108 rfl))) (ok_nd (ok_lf (ok_CaVN su_X0_hush (by decide) rfl d_X4_silence_110 q434 q436 z33 q2 q437 ⟨by decide +kernel, by decide +kernel, by decide +kernel⟩ ⟨by decide, by decide⟩ rfl)) (ok_lf (ok_ALdn d_X4_silence_113 rfl rfl)))) (ok_nd (ok_nd (ok_lf (ok_ILdn d_X4_silence_114 rfl rfl)) (ok_lf (ok_ILdn d_X4_silence_115 rfl rfl))) (ok_nd (ok_lf (ok_CaV su_X4_trialLeavesWrong (by decide) rfl d_X4_silence_116 q400 q402 z31 q1 q403 ⟨by decide +kernel, by decide +kernel, by decide +kernel⟩ ⟨by decide, by decide⟩ rfl)) (ok_nd (ok_lf (ok_IfEq d_X4_silence_119 (by decide) rfl)) (ok_lf (ok_ILd d_X4_silence_122 rfl)))))) (ok_nd (ok_nd (ok_nd (ok_lf (ok_IRet d_X4_silence_124)) (ok_lf (ok_Inc d_X4_silence_125 (by decide) rfl))) (ok_nd (ok_lf (ok_Go d_X4_silence_128 (by decide))) (ok_lf (ok_Inc d_X4_silence_131 (by decide) rfl)))) (ok_nd (ok_nd (ok_lf (ok_Go d_X4_silence_134 (by decide))) (ok_lf (ok_ALdn d_X4_silence_137 rfl rfl))) (ok_nd (ok_lf (ok_Ldc d_X4_silence_138 q301 rfl)) (ok_nd (ok_lf (ok_CaV su_X4_tell (by decide) rfl d_X4_silence_140 q184 q186 z0 q1 q187 ⟨by decide +kernel, by decide +kernel, by decide +kernel⟩ ⟨by decide, by decide⟩ rfl)) (ok_lf (ok_IRet d_X4_silence_143))))))))
noncomputable def S_X4_silence : Sem := lockS (inl P_X4_silence 200000 7) 0
theorem su_X4_silence {l : Launch} {G : Gm} : SemU l G yX4_silence (wsOf yX4_silence cX4_silence 7 (some .int)) 7 S_X4_silence := sem_lock (sem_inl 200000 (by decide +kernel) rfl ok_X4_silence)
