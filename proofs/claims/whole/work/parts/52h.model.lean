theorem d_X5_init_0 : decode cX5_init 0 = .ok (.aload_n 0, 1) := by decide +kernel
theorem d_X5_init_1 : decode cX5_init 1 = .ok (.invokespecial 1, 3) := by decide +kernel
theorem d_X5_init_4 : decode cX5_init 4 = .ok (.aload_n 0, 1) := by decide +kernel
theorem d_X5_init_5 : decode cX5_init 5 = .ok (.bipush 70, 2) := by decide +kernel
theorem d_X5_init_7 : decode cX5_init 7 = .ok (.newarray .int, 2) := by decide +kernel
theorem d_X5_init_9 : decode cX5_init 9 = .ok (.putfield 9, 3) := by decide +kernel
theorem d_X5_init_12 : decode cX5_init 12 = .ok (.aload_n 0, 1) := by decide +kernel
theorem d_X5_init_13 : decode cX5_init 13 = .ok (.bipush 70, 2) := by decide +kernel
theorem d_X5_init_15 : decode cX5_init 15 = .ok (.newarray .int, 2) := by decide +kernel
theorem d_X5_init_17 : decode cX5_init 17 = .ok (.putfield 13, 3) := by decide +kernel
theorem d_X5_init_20 : decode cX5_init 20 = .ok (.aload_n 0, 1) := by decide +kernel
theorem d_X5_init_21 : decode cX5_init 21 = .ok (.bipush 70, 2) := by decide +kernel
theorem d_X5_init_23 : decode cX5_init 23 = .ok (.newarray .int, 2) := by decide +kernel
theorem d_X5_init_25 : decode cX5_init 25 = .ok (.putfield 16, 3) := by decide +kernel
theorem d_X5_init_28 : decode cX5_init 28 = .ok (.aload_n 0, 1) := by decide +kernel
theorem d_X5_init_29 : decode cX5_init 29 = .ok (.bipush 8, 2) := by decide +kernel
theorem d_X5_init_31 : decode cX5_init 31 = .ok (.newarray .int, 2) := by decide +kernel
theorem d_X5_init_33 : decode cX5_init 33 = .ok (.putfield 19, 3) := by decide +kernel
theorem d_X5_init_36 : decode cX5_init 36 = .ok (.aload_n 0, 1) := by decide +kernel
theorem d_X5_init_37 : decode cX5_init 37 = .ok (.bipush 120, 2) := by decide +kernel
theorem d_X5_init_39 : decode cX5_init 39 = .ok (.newarray .int, 2) := by decide +kernel
theorem d_X5_init_41 : decode cX5_init 41 = .ok (.putfield 22, 3) := by decide +kernel
theorem d_X5_init_44 : decode cX5_init 44 = .ok (.aload_n 0, 1) := by decide +kernel
theorem d_X5_init_45 : decode cX5_init 45 = .ok (.bipush 7, 2) := by decide +kernel
theorem d_X5_init_47 : decode cX5_init 47 = .ok (.anewarray 25, 3) := by decide +kernel
theorem d_X5_init_50 : decode cX5_init 50 = .ok (.dup, 1) := by decide +kernel
theorem d_X5_init_51 : decode cX5_init 51 = .ok (.iconst 0, 1) := by decide +kernel
theorem d_X5_init_52 : decode cX5_init 52 = .ok (.ldc 27, 2) := by decide +kernel
theorem d_X5_init_54 : decode cX5_init 54 = .ok (.aastore, 1) := by decide +kernel
theorem d_X5_init_55 : decode cX5_init 55 = .ok (.dup, 1) := by decide +kernel
theorem d_X5_init_56 : decode cX5_init 56 = .ok (.iconst 1, 1) := by decide +kernel
theorem d_X5_init_57 : decode cX5_init 57 = .ok (.ldc 29, 2) := by decide +kernel
theorem d_X5_init_59 : decode cX5_init 59 = .ok (.aastore, 1) := by decide +kernel
theorem d_X5_init_60 : decode cX5_init 60 = .ok (.dup, 1) := by decide +kernel
theorem d_X5_init_61 : decode cX5_init 61 = .ok (.iconst 2, 1) := by decide +kernel
theorem d_X5_init_62 : decode cX5_init 62 = .ok (.ldc 31, 2) := by decide +kernel
theorem d_X5_init_64 : decode cX5_init 64 = .ok (.aastore, 1) := by decide +kernel
theorem d_X5_init_65 : decode cX5_init 65 = .ok (.dup, 1) := by decide +kernel
theorem d_X5_init_66 : decode cX5_init 66 = .ok (.iconst 3, 1) := by decide +kernel
theorem d_X5_init_67 : decode cX5_init 67 = .ok (.ldc 33, 2) := by decide +kernel
theorem d_X5_init_69 : decode cX5_init 69 = .ok (.aastore, 1) := by decide +kernel
theorem d_X5_init_70 : decode cX5_init 70 = .ok (.dup, 1) := by decide +kernel
theorem d_X5_init_71 : decode cX5_init 71 = .ok (.iconst 4, 1) := by decide +kernel
theorem d_X5_init_72 : decode cX5_init 72 = .ok (.ldc 35, 2) := by decide +kernel
theorem d_X5_init_74 : decode cX5_init 74 = .ok (.aastore, 1) := by decide +kernel
theorem d_X5_init_75 : decode cX5_init 75 = .ok (.dup, 1) := by decide +kernel
theorem d_X5_init_76 : decode cX5_init 76 = .ok (.iconst 5, 1) := by decide +kernel
theorem d_X5_init_77 : decode cX5_init 77 = .ok (.ldc 37, 2) := by decide +kernel
theorem d_X5_init_79 : decode cX5_init 79 = .ok (.aastore, 1) := by decide +kernel
theorem d_X5_init_80 : decode cX5_init 80 = .ok (.dup, 1) := by decide +kernel
theorem d_X5_init_81 : decode cX5_init 81 = .ok (.bipush 6, 2) := by decide +kernel
theorem d_X5_init_83 : decode cX5_init 83 = .ok (.ldc 39, 2) := by decide +kernel
theorem d_X5_init_85 : decode cX5_init 85 = .ok (.aastore, 1) := by decide +kernel
theorem d_X5_init_86 : decode cX5_init 86 = .ok (.putfield 41, 3) := by decide +kernel
theorem d_X5_init_89 : decode cX5_init 89 = .ok (.aload_n 0, 1) := by decide +kernel
theorem d_X5_init_90 : decode cX5_init 90 = .ok (.sipush 480, 3) := by decide +kernel
theorem d_X5_init_93 : decode cX5_init 93 = .ok (.newarray .int, 2) := by decide +kernel
theorem d_X5_init_95 : decode cX5_init 95 = .ok (.putfield 45, 3) := by decide +kernel
theorem d_X5_init_98 : decode cX5_init 98 = .ok (.aload_n 0, 1) := by decide +kernel
theorem d_X5_init_99 : decode cX5_init 99 = .ok (.iconst 4, 1) := by decide +kernel
theorem d_X5_init_100 : decode cX5_init 100 = .ok (.newarray .int, 2) := by decide +kernel
theorem d_X5_init_102 : decode cX5_init 102 = .ok (.putfield 48, 3) := by decide +kernel
theorem d_X5_init_105 : decode cX5_init 105 = .ok (.aload_n 0, 1) := by decide +kernel
theorem d_X5_init_106 : decode cX5_init 106 = .ok (.iconst 4, 1) := by decide +kernel
theorem d_X5_init_107 : decode cX5_init 107 = .ok (.newarray .int, 2) := by decide +kernel
theorem d_X5_init_109 : decode cX5_init 109 = .ok (.putfield 51, 3) := by decide +kernel
theorem d_X5_init_112 : decode cX5_init 112 = .ok (.aload_n 0, 1) := by decide +kernel
theorem d_X5_init_113 : decode cX5_init 113 = .ok (.sipush 160, 3) := by decide +kernel
theorem d_X5_init_116 : decode cX5_init 116 = .ok (.newarray .int, 2) := by decide +kernel
theorem d_X5_init_118 : decode cX5_init 118 = .ok (.putfield 54, 3) := by decide +kernel
theorem d_X5_init_121 : decode cX5_init 121 = .ok (.aload_n 0, 1) := by decide +kernel
theorem d_X5_init_122 : decode cX5_init 122 = .ok (.bipush 40, 2) := by decide +kernel
theorem d_X5_init_124 : decode cX5_init 124 = .ok (.newarray .int, 2) := by decide +kernel
theorem d_X5_init_126 : decode cX5_init 126 = .ok (.putfield 57, 3) := by decide +kernel
theorem d_X5_init_129 : decode cX5_init 129 = .ok (.aload_n 0, 1) := by decide +kernel
theorem d_X5_init_130 : decode cX5_init 130 = .ok (.getfield 9, 3) := by decide +kernel
theorem d_X5_init_133 : decode cX5_init 133 = .ok (.iconst 2, 1) := by decide +kernel
theorem d_X5_init_134 : decode cX5_init 134 = .ok (.iconst 1, 1) := by decide +kernel
theorem d_X5_init_135 : decode cX5_init 135 = .ok (.iastore, 1) := by decide +kernel
theorem d_X5_init_136 : decode cX5_init 136 = .ok (.aload_n 0, 1) := by decide +kernel
theorem d_X5_init_137 : decode cX5_init 137 = .ok (.getfield 9, 3) := by decide +kernel
theorem d_X5_init_140 : decode cX5_init 140 = .ok (.iconst 3, 1) := by decide +kernel
theorem d_X5_init_141 : decode cX5_init 141 = .ok (.bipush 12, 2) := by decide +kernel
theorem d_X5_init_143 : decode cX5_init 143 = .ok (.iastore, 1) := by decide +kernel
theorem d_X5_init_144 : decode cX5_init 144 = .ok (.aload_n 0, 1) := by decide +kernel
theorem d_X5_init_145 : decode cX5_init 145 = .ok (.getfield 9, 3) := by decide +kernel
theorem d_X5_init_148 : decode cX5_init 148 = .ok (.iconst 4, 1) := by decide +kernel
theorem d_X5_init_149 : decode cX5_init 149 = .ok (.iconst 3, 1) := by decide +kernel
theorem d_X5_init_150 : decode cX5_init 150 = .ok (.iastore, 1) := by decide +kernel
theorem d_X5_init_151 : decode cX5_init 151 = .ok (.iconst 0, 1) := by decide +kernel
theorem d_X5_init_152 : decode cX5_init 152 = .ok (.istore_n 1, 1) := by decide +kernel
theorem d_X5_init_153 : decode cX5_init 153 = .ok (.iload_n 1, 1) := by decide +kernel
theorem d_X5_init_154 : decode cX5_init 154 = .ok (.bipush 6, 2) := by decide +kernel
theorem d_X5_init_156 : decode cX5_init 156 = .ok (.if_icmp .ge 19, 3) := by decide +kernel
theorem d_X5_init_159 : decode cX5_init 159 = .ok (.aload_n 0, 1) := by decide +kernel
theorem d_X5_init_160 : decode cX5_init 160 = .ok (.getfield 9, 3) := by decide +kernel
theorem d_X5_init_163 : decode cX5_init 163 = .ok (.bipush 6, 2) := by decide +kernel
theorem d_X5_init_165 : decode cX5_init 165 = .ok (.iload_n 1, 1) := by decide +kernel
theorem d_X5_init_166 : decode cX5_init 166 = .ok (.iadd, 1) := by decide +kernel
theorem d_X5_init_167 : decode cX5_init 167 = .ok (.iconst 1, 1) := by decide +kernel
theorem d_X5_init_168 : decode cX5_init 168 = .ok (.iastore, 1) := by decide +kernel
theorem d_X5_init_169 : decode cX5_init 169 = .ok (.iinc 1 1, 3) := by decide +kernel
theorem d_X5_init_172 : decode cX5_init 172 = .ok (.goto (-19), 3) := by decide +kernel
theorem d_X5_init_175 : decode cX5_init 175 = .ok (.iconst 0, 1) := by decide +kernel
theorem d_X5_init_176 : decode cX5_init 176 = .ok (.istore_n 1, 1) := by decide +kernel
theorem d_X5_init_177 : decode cX5_init 177 = .ok (.iload_n 1, 1) := by decide +kernel
theorem d_X5_init_178 : decode cX5_init 178 = .ok (.bipush 10, 2) := by decide +kernel
theorem d_X5_init_180 : decode cX5_init 180 = .ok (.if_icmp .ge 19, 3) := by decide +kernel
theorem d_X5_init_183 : decode cX5_init 183 = .ok (.aload_n 0, 1) := by decide +kernel
theorem d_X5_init_184 : decode cX5_init 184 = .ok (.getfield 9, 3) := by decide +kernel
theorem d_X5_init_187 : decode cX5_init 187 = .ok (.bipush 12, 2) := by decide +kernel
theorem d_X5_init_189 : decode cX5_init 189 = .ok (.iload_n 1, 1) := by decide +kernel
theorem d_X5_init_190 : decode cX5_init 190 = .ok (.iadd, 1) := by decide +kernel
theorem d_X5_init_191 : decode cX5_init 191 = .ok (.iconst (-1), 1) := by decide +kernel
theorem d_X5_init_192 : decode cX5_init 192 = .ok (.iastore, 1) := by decide +kernel
theorem d_X5_init_193 : decode cX5_init 193 = .ok (.iinc 1 1, 3) := by decide +kernel
theorem d_X5_init_196 : decode cX5_init 196 = .ok (.goto (-19), 3) := by decide +kernel
theorem d_X5_init_199 : decode cX5_init 199 = .ok (.return_, 1) := by decide +kernel
def ad5 (G : Gm) (h : Nat) (u : Nat → Nat) : Nat → Nat := fun i => bif Nat.beq i 49 then h else bif Nat.ble 61 i then G.2.1 i else u i
def B_X5_init (G : Gm) (h : Nat) (u : Nat → Nat) : va_W := wl G (ad5 G h u) 49 12
set_option maxHeartbeats 4000000 in
set_option maxRecDepth 100000 in
theorem lp_X5_153 {p : Program} {l : Launch} {e : Env} {R : Room} {s : State} {m : MethodId} {args : Array Value} {below : List Frame} {meth : Method} {c : Code} {cells slots : Nat} {Q : State → Prop} {G : Gm} {A : Nat → Prop} {h ob1 ob10 ob11 ob2 ob3 ob4 ob5 ob6 ob7 ob8 ob9 : Nat} (hC : CxI p s m args c 2 cX5_init RX5 G A) : ∀ (n i : Nat) (x : Int32) (f : Nat → Int32) (H : Heap) (locs : List Loc) (ls : Array Slot), i + n = 6 → x = nI i → WI s G A [(h, .inr (5, [.ref ob1, .ref ob2, .ref ob3, .int 0, .ref ob4, .int 0, .int 0, .ref ob5, .int 0, .int 0, .int 0, .int 0, .int 0, .int 0, .ref ob6, .ref ob7, .int 0, .int 0, .ref ob8, .ref ob9, .ref ob10, .ref ob11])), (ob1, .inl (G.2.2.1 0, 70, .inl (f))), (ob2, .inl (G.2.2.1 0, 70, .inl (fun _ => 0))), (ob3, .inl (G.2.2.1 0, 70, .inl (fun _ => 0))), (ob4, .inl (G.2.2.1 0, 8, .inl (fun _ => 0))), (ob5, .inl (G.2.2.1 0, 120, .inl (fun _ => 0))), (ob6, .inl (G.2.2.1 3, 7, .inr (.inr (.inr (.inr (va_up (va_up (va_up (va_up (va_up (va_up (va_up (fun _ => none) 0 (some (G.2.1 (61 + 0)))) 1 (some (G.2.1 (61 + 1)))) 2 (some (G.2.1 (61 + 2)))) 3 (some (G.2.1 (61 + 3)))) 4 (some (G.2.1 (61 + 4)))) 5 (some (G.2.1 (61 + 5)))) 6 (some (G.2.1 (61 + 6))))))))), (ob7, .inl (G.2.2.1 0, 480, .inl (fun _ => 0))), (ob8, .inl (G.2.2.1 0, 4, .inl (fun _ => 0))), (ob9, .inl (G.2.2.1 0, 4, .inl (fun _ => 0))), (ob10, .inl (G.2.2.1 0, 160, .inl (fun _ => 0))), (ob11, .inl (G.2.2.1 0, 40, .inl (fun _ => 0)))] H locs → lv_has ls 2 [(1, .int x), (0, .ref h)] → (∀ (H : Heap) (locs : List Loc) (ls : Array Slot), WI s G A [(h, .inr (5, [.ref ob1, .ref ob2, .ref ob3, .int 0, .ref ob4, .int 0, .int 0, .ref ob5, .int 0, .int 0, .int 0, .int 0, .int 0, .int 0, .ref ob6, .ref ob7, .int 0, .int 0, .ref ob8, .ref ob9, .ref ob10, .ref ob11])), (ob1, .inl (G.2.2.1 0, 70, .inl (flF 1 n (6 + i) f))), (ob2, .inl (G.2.2.1 0, 70, .inl (fun _ => 0))), (ob3, .inl (G.2.2.1 0, 70, .inl (fun _ => 0))), (ob4, .inl (G.2.2.1 0, 8, .inl (fun _ => 0))), (ob5, .inl (G.2.2.1 0, 120, .inl (fun _ => 0))), (ob6, .inl (G.2.2.1 3, 7, .inr (.inr (.inr (.inr (va_up (va_up (va_up (va_up (va_up (va_up (va_up (fun _ => none) 0 (some (G.2.1 (61 + 0)))) 1 (some (G.2.1 (61 + 1)))) 2 (some (G.2.1 (61 + 2)))) 3 (some (G.2.1 (61 + 3)))) 4 (some (G.2.1 (61 + 4)))) 5 (some (G.2.1 (61 + 5)))) 6 (some (G.2.1 (61 + 6))))))))), (ob7, .inl (G.2.2.1 0, 480, .inl (fun _ => 0))), (ob8, .inl (G.2.2.1 0, 4, .inl (fun _ => 0))), (ob9, .inl (G.2.2.1 0, 4, .inl (fun _ => 0))), (ob10, .inl (G.2.2.1 0, 160, .inl (fun _ => 0))), (ob11, .inl (G.2.2.1 0, 40, .inl (fun _ => 0)))] H locs → lv_has ls 2 [(1, .int 6), (0, .ref h)] → W p l e R s m args below meth c H locs cells slots Q (F0 m 175 ls [])) → W p l e R s m args below meth c H locs cells slots Q (F0 m 153 ls []) := by
  intro n
  induction n with
  | zero =>
    intro i x f H locs ls hi hx hI hl kk
    have e1 : i = 6 := by omega
    subst e1
    have e2 : x = 6 := hx
    subst e2
    refine lv_iload_n hC.1.1 hC.1.2.1 d_X5_init_153 rfl (lv_at hl 0 rfl) ?_
    refine lv_bipush (v := 6) hC.1.1 hC.1.2.1 d_X5_init_154 (by decide) ?_
    refine lv_icmp_ge (tgt := 175) hC.1.1 hC.1.2.1 d_X5_init_156 (by decide) (fun _ => ?_) (fun z => absurd (by decide) z)
    exact kk H locs ls hI hl
  | succ n ih =>
    intro i x f H locs ls hi hx hI hl kk
    have ex : (6 + x).toNatClampNeg = 6 + i := by rw [hx, show (6 : Int32) + nI i = nI (6 + i) from nI_add 6 i]; exact nI_cl (by omega)
    have hv : vp_in (6 + x) 70 := by rw [hx, show (6 : Int32) + nI i = nI (6 + i) from nI_add 6 i]; exact vp_in_nI (by omega) (by decide)
    refine lv_iload_n hC.1.1 hC.1.2.1 d_X5_init_153 rfl (lv_at hl 0 rfl) ?_
    refine lv_bipush (v := 6) hC.1.1 hC.1.2.1 d_X5_init_154 (by decide) ?_
    refine lv_icmp_ge (tgt := 175) hC.1.1 hC.1.2.1 d_X5_init_156 (by decide) (fun z => absurd z (by rw [hx]; exact nI_ge (b := 6) (by omega) (by decide))) (fun _ => ?_)
    refine lv_aload_n hC.1.1 hC.1.2.1 d_X5_init_159 rfl (lv_at hl 1 rfl) ?_
    refine n_get (ci := 5) (k := 0) (v := .ref ob1) hC hI 0 rfl (by decide) (by decide) q703 rfl d_X5_init_160 ?_
    refine lv_bipush (v := 6) hC.1.1 hC.1.2.1 d_X5_init_163 (by decide) ?_
    refine lv_iload_n hC.1.1 hC.1.2.1 d_X5_init_165 rfl (lv_at hl 0 rfl) ?_
    refine lv_iadd hC.1.1 hC.1.2.1 d_X5_init_166 ?_
    refine lv_iconst (v := 1) hC.1.1 hC.1.2.1 d_X5_init_167 (by decide) ?_
    refine n_iast hC hI 1 rfl hv d_X5_init_168 (fun H locs hI => ?_)
    rw [ex] at hI
    have hI : WI s G A [(h, .inr (5, [.ref ob1, .ref ob2, .ref ob3, .int 0, .ref ob4, .int 0, .int 0, .ref ob5, .int 0, .int 0, .int 0, .int 0, .int 0, .int 0, .ref ob6, .ref ob7, .int 0, .int 0, .ref ob8, .ref ob9, .ref ob10, .ref ob11])), (ob1, .inl (G.2.2.1 0, 70, .inl (upd f (6 + i) 1))), (ob2, .inl (G.2.2.1 0, 70, .inl (fun _ => 0))), (ob3, .inl (G.2.2.1 0, 70, .inl (fun _ => 0))), (ob4, .inl (G.2.2.1 0, 8, .inl (fun _ => 0))), (ob5, .inl (G.2.2.1 0, 120, .inl (fun _ => 0))), (ob6, .inl (G.2.2.1 3, 7, .inr (.inr (.inr (.inr (va_up (va_up (va_up (va_up (va_up (va_up (va_up (fun _ => none) 0 (some (G.2.1 (61 + 0)))) 1 (some (G.2.1 (61 + 1)))) 2 (some (G.2.1 (61 + 2)))) 3 (some (G.2.1 (61 + 3)))) 4 (some (G.2.1 (61 + 4)))) 5 (some (G.2.1 (61 + 5)))) 6 (some (G.2.1 (61 + 6))))))))), (ob7, .inl (G.2.2.1 0, 480, .inl (fun _ => 0))), (ob8, .inl (G.2.2.1 0, 4, .inl (fun _ => 0))), (ob9, .inl (G.2.2.1 0, 4, .inl (fun _ => 0))), (ob10, .inl (G.2.2.1 0, 160, .inl (fun _ => 0))), (ob11, .inl (G.2.2.1 0, 40, .inl (fun _ => 0)))] H locs := hI
    refine lv_iinc (v := x + 1) (lv' := [(1, .int (x + 1)), (0, .ref h)]) hC.1.1 hC.1.2.1 d_X5_init_169 hl (k := 0) rfl rfl (by decide) rfl (fun ls hl => ?_)
    refine lv_goto (tgt := 153) hC.1.1 hC.1.2.1 d_X5_init_172 (by decide) ?_
    exact ih (i + 1) (x + 1) (upd f (6 + i) 1) H locs ls (by omega) (by rw [hx]; exact nI_1 i) hI hl kk
set_option maxHeartbeats 4000000 in
set_option maxRecDepth 100000 in
theorem lp_X5_177 {p : Program} {l : Launch} {e : Env} {R : Room} {s : State} {m : MethodId} {args : Array Value} {below : List Frame} {meth : Method} {c : Code} {cells slots : Nat} {Q : State → Prop} {G : Gm} {A : Nat → Prop} {h ob1 ob10 ob11 ob2 ob3 ob4 ob5 ob6 ob7 ob8 ob9 : Nat} (hC : CxI p s m args c 2 cX5_init RX5 G A) : ∀ (n i : Nat) (x : Int32) (f : Nat → Int32) (H : Heap) (locs : List Loc) (ls : Array Slot), i + n = 10 → x = nI i → WI s G A [(h, .inr (5, [.ref ob1, .ref ob2, .ref ob3, .int 0, .ref ob4, .int 0, .int 0, .ref ob5, .int 0, .int 0, .int 0, .int 0, .int 0, .int 0, .ref ob6, .ref ob7, .int 0, .int 0, .ref ob8, .ref ob9, .ref ob10, .ref ob11])), (ob1, .inl (G.2.2.1 0, 70, .inl (f))), (ob2, .inl (G.2.2.1 0, 70, .inl (fun _ => 0))), (ob3, .inl (G.2.2.1 0, 70, .inl (fun _ => 0))), (ob4, .inl (G.2.2.1 0, 8, .inl (fun _ => 0))), (ob5, .inl (G.2.2.1 0, 120, .inl (fun _ => 0))), (ob6, .inl (G.2.2.1 3, 7, .inr (.inr (.inr (.inr (va_up (va_up (va_up (va_up (va_up (va_up (va_up (fun _ => none) 0 (some (G.2.1 (61 + 0)))) 1 (some (G.2.1 (61 + 1)))) 2 (some (G.2.1 (61 + 2)))) 3 (some (G.2.1 (61 + 3)))) 4 (some (G.2.1 (61 + 4)))) 5 (some (G.2.1 (61 + 5)))) 6 (some (G.2.1 (61 + 6))))))))), (ob7, .inl (G.2.2.1 0, 480, .inl (fun _ => 0))), (ob8, .inl (G.2.2.1 0, 4, .inl (fun _ => 0))), (ob9, .inl (G.2.2.1 0, 4, .inl (fun _ => 0))), (ob10, .inl (G.2.2.1 0, 160, .inl (fun _ => 0))), (ob11, .inl (G.2.2.1 0, 40, .inl (fun _ => 0)))] H locs → lv_has ls 2 [(1, .int x), (0, .ref h)] → (∀ (H : Heap) (locs : List Loc) (ls : Array Slot), WI s G A [(h, .inr (5, [.ref ob1, .ref ob2, .ref ob3, .int 0, .ref ob4, .int 0, .int 0, .ref ob5, .int 0, .int 0, .int 0, .int 0, .int 0, .int 0, .ref ob6, .ref ob7, .int 0, .int 0, .ref ob8, .ref ob9, .ref ob10, .ref ob11])), (ob1, .inl (G.2.2.1 0, 70, .inl (flF (-1) n (12 + i) f))), (ob2, .inl (G.2.2.1 0, 70, .inl (fun _ => 0))), (ob3, .inl (G.2.2.1 0, 70, .inl (fun _ => 0))), (ob4, .inl (G.2.2.1 0, 8, .inl (fun _ => 0))), (ob5, .inl (G.2.2.1 0, 120, .inl (fun _ => 0))), (ob6, .inl (G.2.2.1 3, 7, .inr (.inr (.inr (.inr (va_up (va_up (va_up (va_up (va_up (va_up (va_up (fun _ => none) 0 (some (G.2.1 (61 + 0)))) 1 (some (G.2.1 (61 + 1)))) 2 (some (G.2.1 (61 + 2)))) 3 (some (G.2.1 (61 + 3)))) 4 (some (G.2.1 (61 + 4)))) 5 (some (G.2.1 (61 + 5)))) 6 (some (G.2.1 (61 + 6))))))))), (ob7, .inl (G.2.2.1 0, 480, .inl (fun _ => 0))), (ob8, .inl (G.2.2.1 0, 4, .inl (fun _ => 0))), (ob9, .inl (G.2.2.1 0, 4, .inl (fun _ => 0))), (ob10, .inl (G.2.2.1 0, 160, .inl (fun _ => 0))), (ob11, .inl (G.2.2.1 0, 40, .inl (fun _ => 0)))] H locs → lv_has ls 2 [(1, .int 10), (0, .ref h)] → W p l e R s m args below meth c H locs cells slots Q (F0 m 199 ls [])) → W p l e R s m args below meth c H locs cells slots Q (F0 m 177 ls []) := by
  intro n
  induction n with
  | zero =>
    intro i x f H locs ls hi hx hI hl kk
    have e1 : i = 10 := by omega
    subst e1
    have e2 : x = 10 := hx
    subst e2
    refine lv_iload_n hC.1.1 hC.1.2.1 d_X5_init_177 rfl (lv_at hl 0 rfl) ?_
    refine lv_bipush (v := 10) hC.1.1 hC.1.2.1 d_X5_init_178 (by decide) ?_
    refine lv_icmp_ge (tgt := 199) hC.1.1 hC.1.2.1 d_X5_init_180 (by decide) (fun _ => ?_) (fun z => absurd (by decide) z)
    exact kk H locs ls hI hl
  | succ n ih =>
    intro i x f H locs ls hi hx hI hl kk
    have ex : (12 + x).toNatClampNeg = 12 + i := by rw [hx, show (12 : Int32) + nI i = nI (12 + i) from nI_add 12 i]; exact nI_cl (by omega)
    have hv : vp_in (12 + x) 70 := by rw [hx, show (12 : Int32) + nI i = nI (12 + i) from nI_add 12 i]; exact vp_in_nI (by omega) (by decide)
    refine lv_iload_n hC.1.1 hC.1.2.1 d_X5_init_177 rfl (lv_at hl 0 rfl) ?_
    refine lv_bipush (v := 10) hC.1.1 hC.1.2.1 d_X5_init_178 (by decide) ?_
    refine lv_icmp_ge (tgt := 199) hC.1.1 hC.1.2.1 d_X5_init_180 (by decide) (fun z => absurd z (by rw [hx]; exact nI_ge (b := 10) (by omega) (by decide))) (fun _ => ?_)
    refine lv_aload_n hC.1.1 hC.1.2.1 d_X5_init_183 rfl (lv_at hl 1 rfl) ?_
    refine n_get (ci := 5) (k := 0) (v := .ref ob1) hC hI 0 rfl (by decide) (by decide) q703 rfl d_X5_init_184 ?_
    refine lv_bipush (v := 12) hC.1.1 hC.1.2.1 d_X5_init_187 (by decide) ?_
    refine lv_iload_n hC.1.1 hC.1.2.1 d_X5_init_189 rfl (lv_at hl 0 rfl) ?_
    refine lv_iadd hC.1.1 hC.1.2.1 d_X5_init_190 ?_
    refine lv_iconst (v := (-1)) hC.1.1 hC.1.2.1 d_X5_init_191 (by decide) ?_
    refine n_iast hC hI 1 rfl hv d_X5_init_192 (fun H locs hI => ?_)
    rw [ex] at hI
    have hI : WI s G A [(h, .inr (5, [.ref ob1, .ref ob2, .ref ob3, .int 0, .ref ob4, .int 0, .int 0, .ref ob5, .int 0, .int 0, .int 0, .int 0, .int 0, .int 0, .ref ob6, .ref ob7, .int 0, .int 0, .ref ob8, .ref ob9, .ref ob10, .ref ob11])), (ob1, .inl (G.2.2.1 0, 70, .inl (upd f (12 + i) (-1)))), (ob2, .inl (G.2.2.1 0, 70, .inl (fun _ => 0))), (ob3, .inl (G.2.2.1 0, 70, .inl (fun _ => 0))), (ob4, .inl (G.2.2.1 0, 8, .inl (fun _ => 0))), (ob5, .inl (G.2.2.1 0, 120, .inl (fun _ => 0))), (ob6, .inl (G.2.2.1 3, 7, .inr (.inr (.inr (.inr (va_up (va_up (va_up (va_up (va_up (va_up (va_up (fun _ => none) 0 (some (G.2.1 (61 + 0)))) 1 (some (G.2.1 (61 + 1)))) 2 (some (G.2.1 (61 + 2)))) 3 (some (G.2.1 (61 + 3)))) 4 (some (G.2.1 (61 + 4)))) 5 (some (G.2.1 (61 + 5)))) 6 (some (G.2.1 (61 + 6))))))))), (ob7, .inl (G.2.2.1 0, 480, .inl (fun _ => 0))), (ob8, .inl (G.2.2.1 0, 4, .inl (fun _ => 0))), (ob9, .inl (G.2.2.1 0, 4, .inl (fun _ => 0))), (ob10, .inl (G.2.2.1 0, 160, .inl (fun _ => 0))), (ob11, .inl (G.2.2.1 0, 40, .inl (fun _ => 0)))] H locs := hI
    refine lv_iinc (v := x + 1) (lv' := [(1, .int (x + 1)), (0, .ref h)]) hC.1.1 hC.1.2.1 d_X5_init_193 hl (k := 0) rfl rfl (by decide) rfl (fun ls hl => ?_)
    refine lv_goto (tgt := 177) hC.1.1 hC.1.2.1 d_X5_init_196 (by decide) ?_
    exact ih (i + 1) (x + 1) (upd f (12 + i) (-1)) H locs ls (by omega) (by rw [hx]; exact nI_1 i) hI hl kk
set_option maxHeartbeats 4000000 in
set_option maxRecDepth 100000 in
theorem c_X5_init {l : Launch} {G : Gm} : CTI l G yX5_init (wsOf yX5_init cX5_init 2 none) 2 5 [.null, .null, .null, .int 0, .null, .int 0, .int 0, .null, .int 0, .int 0, .int 0, .int 0, .int 0, .int 0, .null, .null, .int 0, .int 0, .null, .null, .null, .null] (B_X5_init G) 11 1033 := by
  refine met_I (by decide +kernel) rfl rfl (by decide) ?_
  intro h p e s m args below meth c A ls hC hin hr hk hI hl
  generalize s.heap = H at hI ⊢
  generalize ([] : List Loc) = locs at hI ⊢
  refine lv_aload_n hC.1.1 hC.1.2.1 d_X5_init_0 rfl (lv_at hl 0 rfl) ?_
  refine n_obj hC hl.1 q693 d_X5_init_1 (Nat.le_of_ble_eq_true rfl) (Nat.le_of_ble_eq_true rfl) ?_
  refine lv_aload_n hC.1.1 hC.1.2.1 d_X5_init_4 rfl (lv_at hl 0 rfl) ?_
  refine lv_bipush (v := 70) hC.1.1 hC.1.2.1 d_X5_init_5 (by decide) ?_
  refine n_newa (N := 70) hC hI (by decide) (by decide) (Nat.le_of_ble_eq_true rfl) (Nat.le_of_ble_eq_true rfl) (Nat.le_of_ble_eq_true rfl) d_X5_init_7 (fun ob1 H hI => ?_)
  have hI : WI s G A [(h, .inr (5, [.null, .null, .null, .int 0, .null, .int 0, .int 0, .null, .int 0, .int 0, .int 0, .int 0, .int 0, .int 0, .null, .null, .int 0, .int 0, .null, .null, .null, .null])), (ob1, .inl (G.2.2.1 0, 70, .inl (fun _ => 0)))] H locs := hI
  refine n_putF (ci := 5) (k := 0) hC hI hin 0 rfl (by decide) (by decide) q703 rfl rfl rfl rfl (Nat.le_of_ble_eq_true rfl) d_X5_init_9 (fun H locs hI => ?_)
  have hI : WI s G A [(h, .inr (5, [.ref ob1, .null, .null, .int 0, .null, .int 0, .int 0, .null, .int 0, .int 0, .int 0, .int 0, .int 0, .int 0, .null, .null, .int 0, .int 0, .null, .null, .null, .null])), (ob1, .inl (G.2.2.1 0, 70, .inl (fun _ => 0)))] H locs := hI
  refine lv_aload_n hC.1.1 hC.1.2.1 d_X5_init_12 rfl (lv_at hl 0 rfl) ?_
  refine lv_bipush (v := 70) hC.1.1 hC.1.2.1 d_X5_init_13 (by decide) ?_
  refine n_newa (N := 70) hC hI (by decide) (by decide) (Nat.le_of_ble_eq_true rfl) (Nat.le_of_ble_eq_true rfl) (Nat.le_of_ble_eq_true rfl) d_X5_init_15 (fun ob2 H hI => ?_)
  have hI : WI s G A [(h, .inr (5, [.ref ob1, .null, .null, .int 0, .null, .int 0, .int 0, .null, .int 0, .int 0, .int 0, .int 0, .int 0, .int 0, .null, .null, .int 0, .int 0, .null, .null, .null, .null])), (ob1, .inl (G.2.2.1 0, 70, .inl (fun _ => 0))), (ob2, .inl (G.2.2.1 0, 70, .inl (fun _ => 0)))] H locs := hI
  refine n_putF (ci := 5) (k := 1) hC hI hin 0 rfl (by decide) (by decide) q704 rfl rfl rfl rfl (Nat.le_of_ble_eq_true rfl) d_X5_init_17 (fun H locs hI => ?_)
  have hI : WI s G A [(h, .inr (5, [.ref ob1, .ref ob2, .null, .int 0, .null, .int 0, .int 0, .null, .int 0, .int 0, .int 0, .int 0, .int 0, .int 0, .null, .null, .int 0, .int 0, .null, .null, .null, .null])), (ob1, .inl (G.2.2.1 0, 70, .inl (fun _ => 0))), (ob2, .inl (G.2.2.1 0, 70, .inl (fun _ => 0)))] H locs := hI
  refine lv_aload_n hC.1.1 hC.1.2.1 d_X5_init_20 rfl (lv_at hl 0 rfl) ?_
  refine lv_bipush (v := 70) hC.1.1 hC.1.2.1 d_X5_init_21 (by decide) ?_
  refine n_newa (N := 70) hC hI (by decide) (by decide) (Nat.le_of_ble_eq_true rfl) (Nat.le_of_ble_eq_true rfl) (Nat.le_of_ble_eq_true rfl) d_X5_init_23 (fun ob3 H hI => ?_)
  have hI : WI s G A [(h, .inr (5, [.ref ob1, .ref ob2, .null, .int 0, .null, .int 0, .int 0, .null, .int 0, .int 0, .int 0, .int 0, .int 0, .int 0, .null, .null, .int 0, .int 0, .null, .null, .null, .null])), (ob1, .inl (G.2.2.1 0, 70, .inl (fun _ => 0))), (ob2, .inl (G.2.2.1 0, 70, .inl (fun _ => 0))), (ob3, .inl (G.2.2.1 0, 70, .inl (fun _ => 0)))] H locs := hI
  refine n_putF (ci := 5) (k := 2) hC hI hin 0 rfl (by decide) (by decide) q705 rfl rfl rfl rfl (Nat.le_of_ble_eq_true rfl) d_X5_init_25 (fun H locs hI => ?_)
  have hI : WI s G A [(h, .inr (5, [.ref ob1, .ref ob2, .ref ob3, .int 0, .null, .int 0, .int 0, .null, .int 0, .int 0, .int 0, .int 0, .int 0, .int 0, .null, .null, .int 0, .int 0, .null, .null, .null, .null])), (ob1, .inl (G.2.2.1 0, 70, .inl (fun _ => 0))), (ob2, .inl (G.2.2.1 0, 70, .inl (fun _ => 0))), (ob3, .inl (G.2.2.1 0, 70, .inl (fun _ => 0)))] H locs := hI
  refine lv_aload_n hC.1.1 hC.1.2.1 d_X5_init_28 rfl (lv_at hl 0 rfl) ?_
  refine lv_bipush (v := 8) hC.1.1 hC.1.2.1 d_X5_init_29 (by decide) ?_
  refine n_newa (N := 8) hC hI (by decide) (by decide) (Nat.le_of_ble_eq_true rfl) (Nat.le_of_ble_eq_true rfl) (Nat.le_of_ble_eq_true rfl) d_X5_init_31 (fun ob4 H hI => ?_)
  have hI : WI s G A [(h, .inr (5, [.ref ob1, .ref ob2, .ref ob3, .int 0, .null, .int 0, .int 0, .null, .int 0, .int 0, .int 0, .int 0, .int 0, .int 0, .null, .null, .int 0, .int 0, .null, .null, .null, .null])), (ob1, .inl (G.2.2.1 0, 70, .inl (fun _ => 0))), (ob2, .inl (G.2.2.1 0, 70, .inl (fun _ => 0))), (ob3, .inl (G.2.2.1 0, 70, .inl (fun _ => 0))), (ob4, .inl (G.2.2.1 0, 8, .inl (fun _ => 0)))] H locs := hI
  refine n_putF (ci := 5) (k := 4) hC hI hin 0 rfl (by decide) (by decide) q707 rfl rfl rfl rfl (Nat.le_of_ble_eq_true rfl) d_X5_init_33 (fun H locs hI => ?_)
  have hI : WI s G A [(h, .inr (5, [.ref ob1, .ref ob2, .ref ob3, .int 0, .ref ob4, .int 0, .int 0, .null, .int 0, .int 0, .int 0, .int 0, .int 0, .int 0, .null, .null, .int 0, .int 0, .null, .null, .null, .null])), (ob1, .inl (G.2.2.1 0, 70, .inl (fun _ => 0))), (ob2, .inl (G.2.2.1 0, 70, .inl (fun _ => 0))), (ob3, .inl (G.2.2.1 0, 70, .inl (fun _ => 0))), (ob4, .inl (G.2.2.1 0, 8, .inl (fun _ => 0)))] H locs := hI
  refine lv_aload_n hC.1.1 hC.1.2.1 d_X5_init_36 rfl (lv_at hl 0 rfl) ?_
  refine lv_bipush (v := 120) hC.1.1 hC.1.2.1 d_X5_init_37 (by decide) ?_
  refine n_newa (N := 120) hC hI (by decide) (by decide) (Nat.le_of_ble_eq_true rfl) (Nat.le_of_ble_eq_true rfl) (Nat.le_of_ble_eq_true rfl) d_X5_init_39 (fun ob5 H hI => ?_)
  have hI : WI s G A [(h, .inr (5, [.ref ob1, .ref ob2, .ref ob3, .int 0, .ref ob4, .int 0, .int 0, .null, .int 0, .int 0, .int 0, .int 0, .int 0, .int 0, .null, .null, .int 0, .int 0, .null, .null, .null, .null])), (ob1, .inl (G.2.2.1 0, 70, .inl (fun _ => 0))), (ob2, .inl (G.2.2.1 0, 70, .inl (fun _ => 0))), (ob3, .inl (G.2.2.1 0, 70, .inl (fun _ => 0))), (ob4, .inl (G.2.2.1 0, 8, .inl (fun _ => 0))), (ob5, .inl (G.2.2.1 0, 120, .inl (fun _ => 0)))] H locs := hI
  refine n_putF (ci := 5) (k := 7) hC hI hin 0 rfl (by decide) (by decide) q710 rfl rfl rfl rfl (Nat.le_of_ble_eq_true rfl) d_X5_init_41 (fun H locs hI => ?_)
  have hI : WI s G A [(h, .inr (5, [.ref ob1, .ref ob2, .ref ob3, .int 0, .ref ob4, .int 0, .int 0, .ref ob5, .int 0, .int 0, .int 0, .int 0, .int 0, .int 0, .null, .null, .int 0, .int 0, .null, .null, .null, .null])), (ob1, .inl (G.2.2.1 0, 70, .inl (fun _ => 0))), (ob2, .inl (G.2.2.1 0, 70, .inl (fun _ => 0))), (ob3, .inl (G.2.2.1 0, 70, .inl (fun _ => 0))), (ob4, .inl (G.2.2.1 0, 8, .inl (fun _ => 0))), (ob5, .inl (G.2.2.1 0, 120, .inl (fun _ => 0)))] H locs := hI
  refine lv_aload_n hC.1.1 hC.1.2.1 d_X5_init_44 rfl (lv_at hl 0 rfl) ?_
  refine lv_bipush (v := 7) hC.1.1 hC.1.2.1 d_X5_init_45 (by decide) ?_
  refine n_newq (C := "java/lang/String") (t := 3) (N := 7) hC hI rfl hC.2.1.2.2.1.2.2 q694 (by decide) (by decide) (Nat.le_of_ble_eq_true rfl) (Nat.le_of_ble_eq_true rfl) (Nat.le_of_ble_eq_true rfl) d_X5_init_47 (fun ob6 H hI => ?_)
  have hI : WI s G A [(h, .inr (5, [.ref ob1, .ref ob2, .ref ob3, .int 0, .ref ob4, .int 0, .int 0, .ref ob5, .int 0, .int 0, .int 0, .int 0, .int 0, .int 0, .null, .null, .int 0, .int 0, .null, .null, .null, .null])), (ob1, .inl (G.2.2.1 0, 70, .inl (fun _ => 0))), (ob2, .inl (G.2.2.1 0, 70, .inl (fun _ => 0))), (ob3, .inl (G.2.2.1 0, 70, .inl (fun _ => 0))), (ob4, .inl (G.2.2.1 0, 8, .inl (fun _ => 0))), (ob5, .inl (G.2.2.1 0, 120, .inl (fun _ => 0))), (ob6, .inl (G.2.2.1 3, 7, .inr (.inr (.inr (.inr (fun _ => none))))))] H locs := hI
  refine lv_dup hC.1.1 hC.1.2.1 d_X5_init_50 rfl ?_
  refine lv_iconst (v := 0) hC.1.1 hC.1.2.1 d_X5_init_51 (by decide) ?_
  refine n_ldS (tx := "disputant") (i := 0) hC d_X5_init_52 (List.mem_of_getElem? (i := 13) rfl) ?_
  refine n_astS (j := 0) hC hI 6 rfl (by decide) (vp_in_nI (n := 0) (by decide) (by decide)) d_X5_init_54 (fun H locs hI => ?_)
  have hI : WI s G A [(h, .inr (5, [.ref ob1, .ref ob2, .ref ob3, .int 0, .ref ob4, .int 0, .int 0, .ref ob5, .int 0, .int 0, .int 0, .int 0, .int 0, .int 0, .null, .null, .int 0, .int 0, .null, .null, .null, .null])), (ob1, .inl (G.2.2.1 0, 70, .inl (fun _ => 0))), (ob2, .inl (G.2.2.1 0, 70, .inl (fun _ => 0))), (ob3, .inl (G.2.2.1 0, 70, .inl (fun _ => 0))), (ob4, .inl (G.2.2.1 0, 8, .inl (fun _ => 0))), (ob5, .inl (G.2.2.1 0, 120, .inl (fun _ => 0))), (ob6, .inl (G.2.2.1 3, 7, .inr (.inr (.inr (.inr (va_up (fun _ => none) 0 (some (G.2.1 (61 + 0)))))))))] H locs := hI
  refine lv_dup hC.1.1 hC.1.2.1 d_X5_init_55 rfl ?_
  refine lv_iconst (v := 1) hC.1.1 hC.1.2.1 d_X5_init_56 (by decide) ?_
  refine n_ldS (tx := "aunt") (i := 1) hC d_X5_init_57 (List.mem_of_getElem? (i := 14) rfl) ?_
  refine n_astS (j := 1) hC hI 6 rfl (by decide) (vp_in_nI (n := 1) (by decide) (by decide)) d_X5_init_59 (fun H locs hI => ?_)
  have hI : WI s G A [(h, .inr (5, [.ref ob1, .ref ob2, .ref ob3, .int 0, .ref ob4, .int 0, .int 0, .ref ob5, .int 0, .int 0, .int 0, .int 0, .int 0, .int 0, .null, .null, .int 0, .int 0, .null, .null, .null, .null])), (ob1, .inl (G.2.2.1 0, 70, .inl (fun _ => 0))), (ob2, .inl (G.2.2.1 0, 70, .inl (fun _ => 0))), (ob3, .inl (G.2.2.1 0, 70, .inl (fun _ => 0))), (ob4, .inl (G.2.2.1 0, 8, .inl (fun _ => 0))), (ob5, .inl (G.2.2.1 0, 120, .inl (fun _ => 0))), (ob6, .inl (G.2.2.1 3, 7, .inr (.inr (.inr (.inr (va_up (va_up (fun _ => none) 0 (some (G.2.1 (61 + 0)))) 1 (some (G.2.1 (61 + 1)))))))))] H locs := hI
  refine lv_dup hC.1.1 hC.1.2.1 d_X5_init_60 rfl ?_
  refine lv_iconst (v := 2) hC.1.1 hC.1.2.1 d_X5_init_61 (by decide) ?_
  refine n_ldS (tx := "lawyer") (i := 2) hC d_X5_init_62 (List.mem_of_getElem? (i := 15) rfl) ?_
  refine n_astS (j := 2) hC hI 6 rfl (by decide) (vp_in_nI (n := 2) (by decide) (by decide)) d_X5_init_64 (fun H locs hI => ?_)
  have hI : WI s G A [(h, .inr (5, [.ref ob1, .ref ob2, .ref ob3, .int 0, .ref ob4, .int 0, .int 0, .ref ob5, .int 0, .int 0, .int 0, .int 0, .int 0, .int 0, .null, .null, .int 0, .int 0, .null, .null, .null, .null])), (ob1, .inl (G.2.2.1 0, 70, .inl (fun _ => 0))), (ob2, .inl (G.2.2.1 0, 70, .inl (fun _ => 0))), (ob3, .inl (G.2.2.1 0, 70, .inl (fun _ => 0))), (ob4, .inl (G.2.2.1 0, 8, .inl (fun _ => 0))), (ob5, .inl (G.2.2.1 0, 120, .inl (fun _ => 0))), (ob6, .inl (G.2.2.1 3, 7, .inr (.inr (.inr (.inr (va_up (va_up (va_up (fun _ => none) 0 (some (G.2.1 (61 + 0)))) 1 (some (G.2.1 (61 + 1)))) 2 (some (G.2.1 (61 + 2)))))))))] H locs := hI
  refine lv_dup hC.1.1 hC.1.2.1 d_X5_init_65 rfl ?_
  refine lv_iconst (v := 3) hC.1.1 hC.1.2.1 d_X5_init_66 (by decide) ?_
  refine n_ldS (tx := "parson") (i := 3) hC d_X5_init_67 (List.mem_of_getElem? (i := 16) rfl) ?_
  refine n_astS (j := 3) hC hI 6 rfl (by decide) (vp_in_nI (n := 3) (by decide) (by decide)) d_X5_init_69 (fun H locs hI => ?_)
  have hI : WI s G A [(h, .inr (5, [.ref ob1, .ref ob2, .ref ob3, .int 0, .ref ob4, .int 0, .int 0, .ref ob5, .int 0, .int 0, .int 0, .int 0, .int 0, .int 0, .null, .null, .int 0, .int 0, .null, .null, .null, .null])), (ob1, .inl (G.2.2.1 0, 70, .inl (fun _ => 0))), (ob2, .inl (G.2.2.1 0, 70, .inl (fun _ => 0))), (ob3, .inl (G.2.2.1 0, 70, .inl (fun _ => 0))), (ob4, .inl (G.2.2.1 0, 8, .inl (fun _ => 0))), (ob5, .inl (G.2.2.1 0, 120, .inl (fun _ => 0))), (ob6, .inl (G.2.2.1 3, 7, .inr (.inr (.inr (.inr (va_up (va_up (va_up (va_up (fun _ => none) 0 (some (G.2.1 (61 + 0)))) 1 (some (G.2.1 (61 + 1)))) 2 (some (G.2.1 (61 + 2)))) 3 (some (G.2.1 (61 + 3)))))))))] H locs := hI
  refine lv_dup hC.1.1 hC.1.2.1 d_X5_init_70 rfl ?_
  refine lv_iconst (v := 4) hC.1.1 hC.1.2.1 d_X5_init_71 (by decide) ?_
  refine n_ldS (tx := "bishop") (i := 4) hC d_X5_init_72 (List.mem_of_getElem? (i := 17) rfl) ?_
  refine n_astS (j := 4) hC hI 6 rfl (by decide) (vp_in_nI (n := 4) (by decide) (by decide)) d_X5_init_74 (fun H locs hI => ?_)
  have hI : WI s G A [(h, .inr (5, [.ref ob1, .ref ob2, .ref ob3, .int 0, .ref ob4, .int 0, .int 0, .ref ob5, .int 0, .int 0, .int 0, .int 0, .int 0, .int 0, .null, .null, .int 0, .int 0, .null, .null, .null, .null])), (ob1, .inl (G.2.2.1 0, 70, .inl (fun _ => 0))), (ob2, .inl (G.2.2.1 0, 70, .inl (fun _ => 0))), (ob3, .inl (G.2.2.1 0, 70, .inl (fun _ => 0))), (ob4, .inl (G.2.2.1 0, 8, .inl (fun _ => 0))), (ob5, .inl (G.2.2.1 0, 120, .inl (fun _ => 0))), (ob6, .inl (G.2.2.1 3, 7, .inr (.inr (.inr (.inr (va_up (va_up (va_up (va_up (va_up (fun _ => none) 0 (some (G.2.1 (61 + 0)))) 1 (some (G.2.1 (61 + 1)))) 2 (some (G.2.1 (61 + 2)))) 3 (some (G.2.1 (61 + 3)))) 4 (some (G.2.1 (61 + 4)))))))))] H locs := hI
  refine lv_dup hC.1.1 hC.1.2.1 d_X5_init_75 rfl ?_
  refine lv_iconst (v := 5) hC.1.1 hC.1.2.1 d_X5_init_76 (by decide) ?_
  refine n_ldS (tx := "child") (i := 5) hC d_X5_init_77 (List.mem_of_getElem? (i := 18) rfl) ?_
  refine n_astS (j := 5) hC hI 6 rfl (by decide) (vp_in_nI (n := 5) (by decide) (by decide)) d_X5_init_79 (fun H locs hI => ?_)
  have hI : WI s G A [(h, .inr (5, [.ref ob1, .ref ob2, .ref ob3, .int 0, .ref ob4, .int 0, .int 0, .ref ob5, .int 0, .int 0, .int 0, .int 0, .int 0, .int 0, .null, .null, .int 0, .int 0, .null, .null, .null, .null])), (ob1, .inl (G.2.2.1 0, 70, .inl (fun _ => 0))), (ob2, .inl (G.2.2.1 0, 70, .inl (fun _ => 0))), (ob3, .inl (G.2.2.1 0, 70, .inl (fun _ => 0))), (ob4, .inl (G.2.2.1 0, 8, .inl (fun _ => 0))), (ob5, .inl (G.2.2.1 0, 120, .inl (fun _ => 0))), (ob6, .inl (G.2.2.1 3, 7, .inr (.inr (.inr (.inr (va_up (va_up (va_up (va_up (va_up (va_up (fun _ => none) 0 (some (G.2.1 (61 + 0)))) 1 (some (G.2.1 (61 + 1)))) 2 (some (G.2.1 (61 + 2)))) 3 (some (G.2.1 (61 + 3)))) 4 (some (G.2.1 (61 + 4)))) 5 (some (G.2.1 (61 + 5)))))))))] H locs := hI
  refine lv_dup hC.1.1 hC.1.2.1 d_X5_init_80 rfl ?_
  refine lv_bipush (v := 6) hC.1.1 hC.1.2.1 d_X5_init_81 (by decide) ?_
  refine n_ldS (tx := "twin") (i := 6) hC d_X5_init_83 (List.mem_of_getElem? (i := 19) rfl) ?_
  refine n_astS (j := 6) hC hI 6 rfl (by decide) (vp_in_nI (n := 6) (by decide) (by decide)) d_X5_init_85 (fun H locs hI => ?_)
  have hI : WI s G A [(h, .inr (5, [.ref ob1, .ref ob2, .ref ob3, .int 0, .ref ob4, .int 0, .int 0, .ref ob5, .int 0, .int 0, .int 0, .int 0, .int 0, .int 0, .null, .null, .int 0, .int 0, .null, .null, .null, .null])), (ob1, .inl (G.2.2.1 0, 70, .inl (fun _ => 0))), (ob2, .inl (G.2.2.1 0, 70, .inl (fun _ => 0))), (ob3, .inl (G.2.2.1 0, 70, .inl (fun _ => 0))), (ob4, .inl (G.2.2.1 0, 8, .inl (fun _ => 0))), (ob5, .inl (G.2.2.1 0, 120, .inl (fun _ => 0))), (ob6, .inl (G.2.2.1 3, 7, .inr (.inr (.inr (.inr (va_up (va_up (va_up (va_up (va_up (va_up (va_up (fun _ => none) 0 (some (G.2.1 (61 + 0)))) 1 (some (G.2.1 (61 + 1)))) 2 (some (G.2.1 (61 + 2)))) 3 (some (G.2.1 (61 + 3)))) 4 (some (G.2.1 (61 + 4)))) 5 (some (G.2.1 (61 + 5)))) 6 (some (G.2.1 (61 + 6)))))))))] H locs := hI
  refine n_putF (ci := 5) (k := 14) hC hI hin 0 rfl (by decide) (by decide) q717 rfl rfl rfl rfl (Nat.le_of_ble_eq_true rfl) d_X5_init_86 (fun H locs hI => ?_)
  have hI : WI s G A [(h, .inr (5, [.ref ob1, .ref ob2, .ref ob3, .int 0, .ref ob4, .int 0, .int 0, .ref ob5, .int 0, .int 0, .int 0, .int 0, .int 0, .int 0, .ref ob6, .null, .int 0, .int 0, .null, .null, .null, .null])), (ob1, .inl (G.2.2.1 0, 70, .inl (fun _ => 0))), (ob2, .inl (G.2.2.1 0, 70, .inl (fun _ => 0))), (ob3, .inl (G.2.2.1 0, 70, .inl (fun _ => 0))), (ob4, .inl (G.2.2.1 0, 8, .inl (fun _ => 0))), (ob5, .inl (G.2.2.1 0, 120, .inl (fun _ => 0))), (ob6, .inl (G.2.2.1 3, 7, .inr (.inr (.inr (.inr (va_up (va_up (va_up (va_up (va_up (va_up (va_up (fun _ => none) 0 (some (G.2.1 (61 + 0)))) 1 (some (G.2.1 (61 + 1)))) 2 (some (G.2.1 (61 + 2)))) 3 (some (G.2.1 (61 + 3)))) 4 (some (G.2.1 (61 + 4)))) 5 (some (G.2.1 (61 + 5)))) 6 (some (G.2.1 (61 + 6)))))))))] H locs := hI
  refine lv_aload_n hC.1.1 hC.1.2.1 d_X5_init_89 rfl (lv_at hl 0 rfl) ?_
  refine lv_sipush (v := 480) hC.1.1 hC.1.2.1 d_X5_init_90 (by decide) ?_
  refine n_newa (N := 480) hC hI (by decide) (by decide) (Nat.le_of_ble_eq_true rfl) (Nat.le_of_ble_eq_true rfl) (Nat.le_of_ble_eq_true rfl) d_X5_init_93 (fun ob7 H hI => ?_)
  have hI : WI s G A [(h, .inr (5, [.ref ob1, .ref ob2, .ref ob3, .int 0, .ref ob4, .int 0, .int 0, .ref ob5, .int 0, .int 0, .int 0, .int 0, .int 0, .int 0, .ref ob6, .null, .int 0, .int 0, .null, .null, .null, .null])), (ob1, .inl (G.2.2.1 0, 70, .inl (fun _ => 0))), (ob2, .inl (G.2.2.1 0, 70, .inl (fun _ => 0))), (ob3, .inl (G.2.2.1 0, 70, .inl (fun _ => 0))), (ob4, .inl (G.2.2.1 0, 8, .inl (fun _ => 0))), (ob5, .inl (G.2.2.1 0, 120, .inl (fun _ => 0))), (ob6, .inl (G.2.2.1 3, 7, .inr (.inr (.inr (.inr (va_up (va_up (va_up (va_up (va_up (va_up (va_up (fun _ => none) 0 (some (G.2.1 (61 + 0)))) 1 (some (G.2.1 (61 + 1)))) 2 (some (G.2.1 (61 + 2)))) 3 (some (G.2.1 (61 + 3)))) 4 (some (G.2.1 (61 + 4)))) 5 (some (G.2.1 (61 + 5)))) 6 (some (G.2.1 (61 + 6))))))))), (ob7, .inl (G.2.2.1 0, 480, .inl (fun _ => 0)))] H locs := hI
  refine n_putF (ci := 5) (k := 15) hC hI hin 0 rfl (by decide) (by decide) q718 rfl rfl rfl rfl (Nat.le_of_ble_eq_true rfl) d_X5_init_95 (fun H locs hI => ?_)
  have hI : WI s G A [(h, .inr (5, [.ref ob1, .ref ob2, .ref ob3, .int 0, .ref ob4, .int 0, .int 0, .ref ob5, .int 0, .int 0, .int 0, .int 0, .int 0, .int 0, .ref ob6, .ref ob7, .int 0, .int 0, .null, .null, .null, .null])), (ob1, .inl (G.2.2.1 0, 70, .inl (fun _ => 0))), (ob2, .inl (G.2.2.1 0, 70, .inl (fun _ => 0))), (ob3, .inl (G.2.2.1 0, 70, .inl (fun _ => 0))), (ob4, .inl (G.2.2.1 0, 8, .inl (fun _ => 0))), (ob5, .inl (G.2.2.1 0, 120, .inl (fun _ => 0))), (ob6, .inl (G.2.2.1 3, 7, .inr (.inr (.inr (.inr (va_up (va_up (va_up (va_up (va_up (va_up (va_up (fun _ => none) 0 (some (G.2.1 (61 + 0)))) 1 (some (G.2.1 (61 + 1)))) 2 (some (G.2.1 (61 + 2)))) 3 (some (G.2.1 (61 + 3)))) 4 (some (G.2.1 (61 + 4)))) 5 (some (G.2.1 (61 + 5)))) 6 (some (G.2.1 (61 + 6))))))))), (ob7, .inl (G.2.2.1 0, 480, .inl (fun _ => 0)))] H locs := hI
  refine lv_aload_n hC.1.1 hC.1.2.1 d_X5_init_98 rfl (lv_at hl 0 rfl) ?_
  refine lv_iconst (v := 4) hC.1.1 hC.1.2.1 d_X5_init_99 (by decide) ?_
  refine n_newa (N := 4) hC hI (by decide) (by decide) (Nat.le_of_ble_eq_true rfl) (Nat.le_of_ble_eq_true rfl) (Nat.le_of_ble_eq_true rfl) d_X5_init_100 (fun ob8 H hI => ?_)
  have hI : WI s G A [(h, .inr (5, [.ref ob1, .ref ob2, .ref ob3, .int 0, .ref ob4, .int 0, .int 0, .ref ob5, .int 0, .int 0, .int 0, .int 0, .int 0, .int 0, .ref ob6, .ref ob7, .int 0, .int 0, .null, .null, .null, .null])), (ob1, .inl (G.2.2.1 0, 70, .inl (fun _ => 0))), (ob2, .inl (G.2.2.1 0, 70, .inl (fun _ => 0))), (ob3, .inl (G.2.2.1 0, 70, .inl (fun _ => 0))), (ob4, .inl (G.2.2.1 0, 8, .inl (fun _ => 0))), (ob5, .inl (G.2.2.1 0, 120, .inl (fun _ => 0))), (ob6, .inl (G.2.2.1 3, 7, .inr (.inr (.inr (.inr (va_up (va_up (va_up (va_up (va_up (va_up (va_up (fun _ => none) 0 (some (G.2.1 (61 + 0)))) 1 (some (G.2.1 (61 + 1)))) 2 (some (G.2.1 (61 + 2)))) 3 (some (G.2.1 (61 + 3)))) 4 (some (G.2.1 (61 + 4)))) 5 (some (G.2.1 (61 + 5)))) 6 (some (G.2.1 (61 + 6))))))))), (ob7, .inl (G.2.2.1 0, 480, .inl (fun _ => 0))), (ob8, .inl (G.2.2.1 0, 4, .inl (fun _ => 0)))] H locs := hI
  refine n_putF (ci := 5) (k := 18) hC hI hin 0 rfl (by decide) (by decide) q721 rfl rfl rfl rfl (Nat.le_of_ble_eq_true rfl) d_X5_init_102 (fun H locs hI => ?_)
  have hI : WI s G A [(h, .inr (5, [.ref ob1, .ref ob2, .ref ob3, .int 0, .ref ob4, .int 0, .int 0, .ref ob5, .int 0, .int 0, .int 0, .int 0, .int 0, .int 0, .ref ob6, .ref ob7, .int 0, .int 0, .ref ob8, .null, .null, .null])), (ob1, .inl (G.2.2.1 0, 70, .inl (fun _ => 0))), (ob2, .inl (G.2.2.1 0, 70, .inl (fun _ => 0))), (ob3, .inl (G.2.2.1 0, 70, .inl (fun _ => 0))), (ob4, .inl (G.2.2.1 0, 8, .inl (fun _ => 0))), (ob5, .inl (G.2.2.1 0, 120, .inl (fun _ => 0))), (ob6, .inl (G.2.2.1 3, 7, .inr (.inr (.inr (.inr (va_up (va_up (va_up (va_up (va_up (va_up (va_up (fun _ => none) 0 (some (G.2.1 (61 + 0)))) 1 (some (G.2.1 (61 + 1)))) 2 (some (G.2.1 (61 + 2)))) 3 (some (G.2.1 (61 + 3)))) 4 (some (G.2.1 (61 + 4)))) 5 (some (G.2.1 (61 + 5)))) 6 (some (G.2.1 (61 + 6))))))))), (ob7, .inl (G.2.2.1 0, 480, .inl (fun _ => 0))), (ob8, .inl (G.2.2.1 0, 4, .inl (fun _ => 0)))] H locs := hI
  refine lv_aload_n hC.1.1 hC.1.2.1 d_X5_init_105 rfl (lv_at hl 0 rfl) ?_
  refine lv_iconst (v := 4) hC.1.1 hC.1.2.1 d_X5_init_106 (by decide) ?_
  refine n_newa (N := 4) hC hI (by decide) (by decide) (Nat.le_of_ble_eq_true rfl) (Nat.le_of_ble_eq_true rfl) (Nat.le_of_ble_eq_true rfl) d_X5_init_107 (fun ob9 H hI => ?_)
  have hI : WI s G A [(h, .inr (5, [.ref ob1, .ref ob2, .ref ob3, .int 0, .ref ob4, .int 0, .int 0, .ref ob5, .int 0, .int 0, .int 0, .int 0, .int 0, .int 0, .ref ob6, .ref ob7, .int 0, .int 0, .ref ob8, .null, .null, .null])), (ob1, .inl (G.2.2.1 0, 70, .inl (fun _ => 0))), (ob2, .inl (G.2.2.1 0, 70, .inl (fun _ => 0))), (ob3, .inl (G.2.2.1 0, 70, .inl (fun _ => 0))), (ob4, .inl (G.2.2.1 0, 8, .inl (fun _ => 0))), (ob5, .inl (G.2.2.1 0, 120, .inl (fun _ => 0))), (ob6, .inl (G.2.2.1 3, 7, .inr (.inr (.inr (.inr (va_up (va_up (va_up (va_up (va_up (va_up (va_up (fun _ => none) 0 (some (G.2.1 (61 + 0)))) 1 (some (G.2.1 (61 + 1)))) 2 (some (G.2.1 (61 + 2)))) 3 (some (G.2.1 (61 + 3)))) 4 (some (G.2.1 (61 + 4)))) 5 (some (G.2.1 (61 + 5)))) 6 (some (G.2.1 (61 + 6))))))))), (ob7, .inl (G.2.2.1 0, 480, .inl (fun _ => 0))), (ob8, .inl (G.2.2.1 0, 4, .inl (fun _ => 0))), (ob9, .inl (G.2.2.1 0, 4, .inl (fun _ => 0)))] H locs := hI
  refine n_putF (ci := 5) (k := 19) hC hI hin 0 rfl (by decide) (by decide) q722 rfl rfl rfl rfl (Nat.le_of_ble_eq_true rfl) d_X5_init_109 (fun H locs hI => ?_)
  have hI : WI s G A [(h, .inr (5, [.ref ob1, .ref ob2, .ref ob3, .int 0, .ref ob4, .int 0, .int 0, .ref ob5, .int 0, .int 0, .int 0, .int 0, .int 0, .int 0, .ref ob6, .ref ob7, .int 0, .int 0, .ref ob8, .ref ob9, .null, .null])), (ob1, .inl (G.2.2.1 0, 70, .inl (fun _ => 0))), (ob2, .inl (G.2.2.1 0, 70, .inl (fun _ => 0))), (ob3, .inl (G.2.2.1 0, 70, .inl (fun _ => 0))), (ob4, .inl (G.2.2.1 0, 8, .inl (fun _ => 0))), (ob5, .inl (G.2.2.1 0, 120, .inl (fun _ => 0))), (ob6, .inl (G.2.2.1 3, 7, .inr (.inr (.inr (.inr (va_up (va_up (va_up (va_up (va_up (va_up (va_up (fun _ => none) 0 (some (G.2.1 (61 + 0)))) 1 (some (G.2.1 (61 + 1)))) 2 (some (G.2.1 (61 + 2)))) 3 (some (G.2.1 (61 + 3)))) 4 (some (G.2.1 (61 + 4)))) 5 (some (G.2.1 (61 + 5)))) 6 (some (G.2.1 (61 + 6))))))))), (ob7, .inl (G.2.2.1 0, 480, .inl (fun _ => 0))), (ob8, .inl (G.2.2.1 0, 4, .inl (fun _ => 0))), (ob9, .inl (G.2.2.1 0, 4, .inl (fun _ => 0)))] H locs := hI
  refine lv_aload_n hC.1.1 hC.1.2.1 d_X5_init_112 rfl (lv_at hl 0 rfl) ?_
  refine lv_sipush (v := 160) hC.1.1 hC.1.2.1 d_X5_init_113 (by decide) ?_
  refine n_newa (N := 160) hC hI (by decide) (by decide) (Nat.le_of_ble_eq_true rfl) (Nat.le_of_ble_eq_true rfl) (Nat.le_of_ble_eq_true rfl) d_X5_init_116 (fun ob10 H hI => ?_)
  have hI : WI s G A [(h, .inr (5, [.ref ob1, .ref ob2, .ref ob3, .int 0, .ref ob4, .int 0, .int 0, .ref ob5, .int 0, .int 0, .int 0, .int 0, .int 0, .int 0, .ref ob6, .ref ob7, .int 0, .int 0, .ref ob8, .ref ob9, .null, .null])), (ob1, .inl (G.2.2.1 0, 70, .inl (fun _ => 0))), (ob2, .inl (G.2.2.1 0, 70, .inl (fun _ => 0))), (ob3, .inl (G.2.2.1 0, 70, .inl (fun _ => 0))), (ob4, .inl (G.2.2.1 0, 8, .inl (fun _ => 0))), (ob5, .inl (G.2.2.1 0, 120, .inl (fun _ => 0))), (ob6, .inl (G.2.2.1 3, 7, .inr (.inr (.inr (.inr (va_up (va_up (va_up (va_up (va_up (va_up (va_up (fun _ => none) 0 (some (G.2.1 (61 + 0)))) 1 (some (G.2.1 (61 + 1)))) 2 (some (G.2.1 (61 + 2)))) 3 (some (G.2.1 (61 + 3)))) 4 (some (G.2.1 (61 + 4)))) 5 (some (G.2.1 (61 + 5)))) 6 (some (G.2.1 (61 + 6))))))))), (ob7, .inl (G.2.2.1 0, 480, .inl (fun _ => 0))), (ob8, .inl (G.2.2.1 0, 4, .inl (fun _ => 0))), (ob9, .inl (G.2.2.1 0, 4, .inl (fun _ => 0))), (ob10, .inl (G.2.2.1 0, 160, .inl (fun _ => 0)))] H locs := hI
  refine n_putF (ci := 5) (k := 20) hC hI hin 0 rfl (by decide) (by decide) q723 rfl rfl rfl rfl (Nat.le_of_ble_eq_true rfl) d_X5_init_118 (fun H locs hI => ?_)
  have hI : WI s G A [(h, .inr (5, [.ref ob1, .ref ob2, .ref ob3, .int 0, .ref ob4, .int 0, .int 0, .ref ob5, .int 0, .int 0, .int 0, .int 0, .int 0, .int 0, .ref ob6, .ref ob7, .int 0, .int 0, .ref ob8, .ref ob9, .ref ob10, .null])), (ob1, .inl (G.2.2.1 0, 70, .inl (fun _ => 0))), (ob2, .inl (G.2.2.1 0, 70, .inl (fun _ => 0))), (ob3, .inl (G.2.2.1 0, 70, .inl (fun _ => 0))), (ob4, .inl (G.2.2.1 0, 8, .inl (fun _ => 0))), (ob5, .inl (G.2.2.1 0, 120, .inl (fun _ => 0))), (ob6, .inl (G.2.2.1 3, 7, .inr (.inr (.inr (.inr (va_up (va_up (va_up (va_up (va_up (va_up (va_up (fun _ => none) 0 (some (G.2.1 (61 + 0)))) 1 (some (G.2.1 (61 + 1)))) 2 (some (G.2.1 (61 + 2)))) 3 (some (G.2.1 (61 + 3)))) 4 (some (G.2.1 (61 + 4)))) 5 (some (G.2.1 (61 + 5)))) 6 (some (G.2.1 (61 + 6))))))))), (ob7, .inl (G.2.2.1 0, 480, .inl (fun _ => 0))), (ob8, .inl (G.2.2.1 0, 4, .inl (fun _ => 0))), (ob9, .inl (G.2.2.1 0, 4, .inl (fun _ => 0))), (ob10, .inl (G.2.2.1 0, 160, .inl (fun _ => 0)))] H locs := hI
  refine lv_aload_n hC.1.1 hC.1.2.1 d_X5_init_121 rfl (lv_at hl 0 rfl) ?_
  refine lv_bipush (v := 40) hC.1.1 hC.1.2.1 d_X5_init_122 (by decide) ?_
  refine n_newa (N := 40) hC hI (by decide) (by decide) (Nat.le_of_ble_eq_true rfl) (Nat.le_of_ble_eq_true rfl) (Nat.le_of_ble_eq_true rfl) d_X5_init_124 (fun ob11 H hI => ?_)
  have hI : WI s G A [(h, .inr (5, [.ref ob1, .ref ob2, .ref ob3, .int 0, .ref ob4, .int 0, .int 0, .ref ob5, .int 0, .int 0, .int 0, .int 0, .int 0, .int 0, .ref ob6, .ref ob7, .int 0, .int 0, .ref ob8, .ref ob9, .ref ob10, .null])), (ob1, .inl (G.2.2.1 0, 70, .inl (fun _ => 0))), (ob2, .inl (G.2.2.1 0, 70, .inl (fun _ => 0))), (ob3, .inl (G.2.2.1 0, 70, .inl (fun _ => 0))), (ob4, .inl (G.2.2.1 0, 8, .inl (fun _ => 0))), (ob5, .inl (G.2.2.1 0, 120, .inl (fun _ => 0))), (ob6, .inl (G.2.2.1 3, 7, .inr (.inr (.inr (.inr (va_up (va_up (va_up (va_up (va_up (va_up (va_up (fun _ => none) 0 (some (G.2.1 (61 + 0)))) 1 (some (G.2.1 (61 + 1)))) 2 (some (G.2.1 (61 + 2)))) 3 (some (G.2.1 (61 + 3)))) 4 (some (G.2.1 (61 + 4)))) 5 (some (G.2.1 (61 + 5)))) 6 (some (G.2.1 (61 + 6))))))))), (ob7, .inl (G.2.2.1 0, 480, .inl (fun _ => 0))), (ob8, .inl (G.2.2.1 0, 4, .inl (fun _ => 0))), (ob9, .inl (G.2.2.1 0, 4, .inl (fun _ => 0))), (ob10, .inl (G.2.2.1 0, 160, .inl (fun _ => 0))), (ob11, .inl (G.2.2.1 0, 40, .inl (fun _ => 0)))] H locs := hI
  refine n_putF (ci := 5) (k := 21) hC hI hin 0 rfl (by decide) (by decide) q724 rfl rfl rfl rfl (Nat.le_of_ble_eq_true rfl) d_X5_init_126 (fun H locs hI => ?_)
  have hI : WI s G A [(h, .inr (5, [.ref ob1, .ref ob2, .ref ob3, .int 0, .ref ob4, .int 0, .int 0, .ref ob5, .int 0, .int 0, .int 0, .int 0, .int 0, .int 0, .ref ob6, .ref ob7, .int 0, .int 0, .ref ob8, .ref ob9, .ref ob10, .ref ob11])), (ob1, .inl (G.2.2.1 0, 70, .inl (fun _ => 0))), (ob2, .inl (G.2.2.1 0, 70, .inl (fun _ => 0))), (ob3, .inl (G.2.2.1 0, 70, .inl (fun _ => 0))), (ob4, .inl (G.2.2.1 0, 8, .inl (fun _ => 0))), (ob5, .inl (G.2.2.1 0, 120, .inl (fun _ => 0))), (ob6, .inl (G.2.2.1 3, 7, .inr (.inr (.inr (.inr (va_up (va_up (va_up (va_up (va_up (va_up (va_up (fun _ => none) 0 (some (G.2.1 (61 + 0)))) 1 (some (G.2.1 (61 + 1)))) 2 (some (G.2.1 (61 + 2)))) 3 (some (G.2.1 (61 + 3)))) 4 (some (G.2.1 (61 + 4)))) 5 (some (G.2.1 (61 + 5)))) 6 (some (G.2.1 (61 + 6))))))))), (ob7, .inl (G.2.2.1 0, 480, .inl (fun _ => 0))), (ob8, .inl (G.2.2.1 0, 4, .inl (fun _ => 0))), (ob9, .inl (G.2.2.1 0, 4, .inl (fun _ => 0))), (ob10, .inl (G.2.2.1 0, 160, .inl (fun _ => 0))), (ob11, .inl (G.2.2.1 0, 40, .inl (fun _ => 0)))] H locs := hI
  refine lv_aload_n hC.1.1 hC.1.2.1 d_X5_init_129 rfl (lv_at hl 0 rfl) ?_
  refine n_get (ci := 5) (k := 0) (v := .ref ob1) hC hI 0 rfl (by decide) (by decide) q703 rfl d_X5_init_130 ?_
  refine lv_iconst (v := 2) hC.1.1 hC.1.2.1 d_X5_init_133 (by decide) ?_
  refine lv_iconst (v := 1) hC.1.1 hC.1.2.1 d_X5_init_134 (by decide) ?_
  refine n_iast hC hI 1 rfl (vp_in_nI (n := 2) (by decide) (by decide)) d_X5_init_135 (fun H locs hI => ?_)
  have hI : WI s G A [(h, .inr (5, [.ref ob1, .ref ob2, .ref ob3, .int 0, .ref ob4, .int 0, .int 0, .ref ob5, .int 0, .int 0, .int 0, .int 0, .int 0, .int 0, .ref ob6, .ref ob7, .int 0, .int 0, .ref ob8, .ref ob9, .ref ob10, .ref ob11])), (ob1, .inl (G.2.2.1 0, 70, .inl (upd (fun _ => 0) 2 1))), (ob2, .inl (G.2.2.1 0, 70, .inl (fun _ => 0))), (ob3, .inl (G.2.2.1 0, 70, .inl (fun _ => 0))), (ob4, .inl (G.2.2.1 0, 8, .inl (fun _ => 0))), (ob5, .inl (G.2.2.1 0, 120, .inl (fun _ => 0))), (ob6, .inl (G.2.2.1 3, 7, .inr (.inr (.inr (.inr (va_up (va_up (va_up (va_up (va_up (va_up (va_up (fun _ => none) 0 (some (G.2.1 (61 + 0)))) 1 (some (G.2.1 (61 + 1)))) 2 (some (G.2.1 (61 + 2)))) 3 (some (G.2.1 (61 + 3)))) 4 (some (G.2.1 (61 + 4)))) 5 (some (G.2.1 (61 + 5)))) 6 (some (G.2.1 (61 + 6))))))))), (ob7, .inl (G.2.2.1 0, 480, .inl (fun _ => 0))), (ob8, .inl (G.2.2.1 0, 4, .inl (fun _ => 0))), (ob9, .inl (G.2.2.1 0, 4, .inl (fun _ => 0))), (ob10, .inl (G.2.2.1 0, 160, .inl (fun _ => 0))), (ob11, .inl (G.2.2.1 0, 40, .inl (fun _ => 0)))] H locs := hI
  refine lv_aload_n hC.1.1 hC.1.2.1 d_X5_init_136 rfl (lv_at hl 0 rfl) ?_
  refine n_get (ci := 5) (k := 0) (v := .ref ob1) hC hI 0 rfl (by decide) (by decide) q703 rfl d_X5_init_137 ?_
  refine lv_iconst (v := 3) hC.1.1 hC.1.2.1 d_X5_init_140 (by decide) ?_
  refine lv_bipush (v := 12) hC.1.1 hC.1.2.1 d_X5_init_141 (by decide) ?_
  refine n_iast hC hI 1 rfl (vp_in_nI (n := 3) (by decide) (by decide)) d_X5_init_143 (fun H locs hI => ?_)
  have hI : WI s G A [(h, .inr (5, [.ref ob1, .ref ob2, .ref ob3, .int 0, .ref ob4, .int 0, .int 0, .ref ob5, .int 0, .int 0, .int 0, .int 0, .int 0, .int 0, .ref ob6, .ref ob7, .int 0, .int 0, .ref ob8, .ref ob9, .ref ob10, .ref ob11])), (ob1, .inl (G.2.2.1 0, 70, .inl (upd (upd (fun _ => 0) 2 1) 3 12))), (ob2, .inl (G.2.2.1 0, 70, .inl (fun _ => 0))), (ob3, .inl (G.2.2.1 0, 70, .inl (fun _ => 0))), (ob4, .inl (G.2.2.1 0, 8, .inl (fun _ => 0))), (ob5, .inl (G.2.2.1 0, 120, .inl (fun _ => 0))), (ob6, .inl (G.2.2.1 3, 7, .inr (.inr (.inr (.inr (va_up (va_up (va_up (va_up (va_up (va_up (va_up (fun _ => none) 0 (some (G.2.1 (61 + 0)))) 1 (some (G.2.1 (61 + 1)))) 2 (some (G.2.1 (61 + 2)))) 3 (some (G.2.1 (61 + 3)))) 4 (some (G.2.1 (61 + 4)))) 5 (some (G.2.1 (61 + 5)))) 6 (some (G.2.1 (61 + 6))))))))), (ob7, .inl (G.2.2.1 0, 480, .inl (fun _ => 0))), (ob8, .inl (G.2.2.1 0, 4, .inl (fun _ => 0))), (ob9, .inl (G.2.2.1 0, 4, .inl (fun _ => 0))), (ob10, .inl (G.2.2.1 0, 160, .inl (fun _ => 0))), (ob11, .inl (G.2.2.1 0, 40, .inl (fun _ => 0)))] H locs := hI
  refine lv_aload_n hC.1.1 hC.1.2.1 d_X5_init_144 rfl (lv_at hl 0 rfl) ?_
  refine n_get (ci := 5) (k := 0) (v := .ref ob1) hC hI 0 rfl (by decide) (by decide) q703 rfl d_X5_init_145 ?_
  refine lv_iconst (v := 4) hC.1.1 hC.1.2.1 d_X5_init_148 (by decide) ?_
  refine lv_iconst (v := 3) hC.1.1 hC.1.2.1 d_X5_init_149 (by decide) ?_
  refine n_iast hC hI 1 rfl (vp_in_nI (n := 4) (by decide) (by decide)) d_X5_init_150 (fun H locs hI => ?_)
  have hI : WI s G A [(h, .inr (5, [.ref ob1, .ref ob2, .ref ob3, .int 0, .ref ob4, .int 0, .int 0, .ref ob5, .int 0, .int 0, .int 0, .int 0, .int 0, .int 0, .ref ob6, .ref ob7, .int 0, .int 0, .ref ob8, .ref ob9, .ref ob10, .ref ob11])), (ob1, .inl (G.2.2.1 0, 70, .inl (upd (upd (upd (fun _ => 0) 2 1) 3 12) 4 3))), (ob2, .inl (G.2.2.1 0, 70, .inl (fun _ => 0))), (ob3, .inl (G.2.2.1 0, 70, .inl (fun _ => 0))), (ob4, .inl (G.2.2.1 0, 8, .inl (fun _ => 0))), (ob5, .inl (G.2.2.1 0, 120, .inl (fun _ => 0))), (ob6, .inl (G.2.2.1 3, 7, .inr (.inr (.inr (.inr (va_up (va_up (va_up (va_up (va_up (va_up (va_up (fun _ => none) 0 (some (G.2.1 (61 + 0)))) 1 (some (G.2.1 (61 + 1)))) 2 (some (G.2.1 (61 + 2)))) 3 (some (G.2.1 (61 + 3)))) 4 (some (G.2.1 (61 + 4)))) 5 (some (G.2.1 (61 + 5)))) 6 (some (G.2.1 (61 + 6))))))))), (ob7, .inl (G.2.2.1 0, 480, .inl (fun _ => 0))), (ob8, .inl (G.2.2.1 0, 4, .inl (fun _ => 0))), (ob9, .inl (G.2.2.1 0, 4, .inl (fun _ => 0))), (ob10, .inl (G.2.2.1 0, 160, .inl (fun _ => 0))), (ob11, .inl (G.2.2.1 0, 40, .inl (fun _ => 0)))] H locs := hI
  refine lv_iconst (v := 0) hC.1.1 hC.1.2.1 d_X5_init_151 (by decide) ?_
  refine lv_istore_n (lv' := [(1, .int 0), (0, .ref h)]) hC.1.1 hC.1.2.1 d_X5_init_152 rfl hl (by decide) rfl (fun ls hl => ?_)
  refine lp_X5_153 hC 6 0 0 (upd (upd (upd (fun _ => 0) 2 1) 3 12) 4 3) H locs ls rfl nI_0.symm hI hl (fun H locs ls hI hl => ?_)
  have hI : WI s G A [(h, .inr (5, [.ref ob1, .ref ob2, .ref ob3, .int 0, .ref ob4, .int 0, .int 0, .ref ob5, .int 0, .int 0, .int 0, .int 0, .int 0, .int 0, .ref ob6, .ref ob7, .int 0, .int 0, .ref ob8, .ref ob9, .ref ob10, .ref ob11])), (ob1, .inl (G.2.2.1 0, 70, .inl (flF 1 6 6 (upd (upd (upd (fun _ => 0) 2 1) 3 12) 4 3)))), (ob2, .inl (G.2.2.1 0, 70, .inl (fun _ => 0))), (ob3, .inl (G.2.2.1 0, 70, .inl (fun _ => 0))), (ob4, .inl (G.2.2.1 0, 8, .inl (fun _ => 0))), (ob5, .inl (G.2.2.1 0, 120, .inl (fun _ => 0))), (ob6, .inl (G.2.2.1 3, 7, .inr (.inr (.inr (.inr (va_up (va_up (va_up (va_up (va_up (va_up (va_up (fun _ => none) 0 (some (G.2.1 (61 + 0)))) 1 (some (G.2.1 (61 + 1)))) 2 (some (G.2.1 (61 + 2)))) 3 (some (G.2.1 (61 + 3)))) 4 (some (G.2.1 (61 + 4)))) 5 (some (G.2.1 (61 + 5)))) 6 (some (G.2.1 (61 + 6))))))))), (ob7, .inl (G.2.2.1 0, 480, .inl (fun _ => 0))), (ob8, .inl (G.2.2.1 0, 4, .inl (fun _ => 0))), (ob9, .inl (G.2.2.1 0, 4, .inl (fun _ => 0))), (ob10, .inl (G.2.2.1 0, 160, .inl (fun _ => 0))), (ob11, .inl (G.2.2.1 0, 40, .inl (fun _ => 0)))] H locs := hI
  refine lv_iconst (v := 0) hC.1.1 hC.1.2.1 d_X5_init_175 (by decide) ?_
  refine lv_istore_n (lv' := [(1, .int 0), (0, .ref h)]) hC.1.1 hC.1.2.1 d_X5_init_176 rfl hl (by decide) rfl (fun ls hl => ?_)
  refine lp_X5_177 hC 10 0 0 (flF 1 6 6 (upd (upd (upd (fun _ => 0) 2 1) 3 12) 4 3)) H locs ls rfl nI_0.symm hI hl (fun H locs ls hI hl => ?_)
  have hI : WI s G A [(h, .inr (5, [.ref ob1, .ref ob2, .ref ob3, .int 0, .ref ob4, .int 0, .int 0, .ref ob5, .int 0, .int 0, .int 0, .int 0, .int 0, .int 0, .ref ob6, .ref ob7, .int 0, .int 0, .ref ob8, .ref ob9, .ref ob10, .ref ob11])), (ob1, .inl (G.2.2.1 0, 70, .inl (flF (-1) 10 12 (flF 1 6 6 (upd (upd (upd (fun _ => 0) 2 1) 3 12) 4 3))))), (ob2, .inl (G.2.2.1 0, 70, .inl (fun _ => 0))), (ob3, .inl (G.2.2.1 0, 70, .inl (fun _ => 0))), (ob4, .inl (G.2.2.1 0, 8, .inl (fun _ => 0))), (ob5, .inl (G.2.2.1 0, 120, .inl (fun _ => 0))), (ob6, .inl (G.2.2.1 3, 7, .inr (.inr (.inr (.inr (va_up (va_up (va_up (va_up (va_up (va_up (va_up (fun _ => none) 0 (some (G.2.1 (61 + 0)))) 1 (some (G.2.1 (61 + 1)))) 2 (some (G.2.1 (61 + 2)))) 3 (some (G.2.1 (61 + 3)))) 4 (some (G.2.1 (61 + 4)))) 5 (some (G.2.1 (61 + 5)))) 6 (some (G.2.1 (61 + 6))))))))), (ob7, .inl (G.2.2.1 0, 480, .inl (fun _ => 0))), (ob8, .inl (G.2.2.1 0, 4, .inl (fun _ => 0))), (ob9, .inl (G.2.2.1 0, 4, .inl (fun _ => 0))), (ob10, .inl (G.2.2.1 0, 160, .inl (fun _ => 0))), (ob11, .inl (G.2.2.1 0, 40, .inl (fun _ => 0)))] H locs := hI
  obtain ⟨u, hu⟩ : ∃ u : Nat → Nat, u = (fun k => [h, ob1, ob2, ob3, ob4, ob5, ob7, ob8, ob9, ob10, ob11, ob6].getD (k - 49) 0) := ⟨_, rfl⟩
  have hP := P_row (q0 := 6) (fun k => some (ad5 G h u (rfOf 60 k))) hI.1 hI.2.1 rfl (fun k hk => by rcases (show k = 0 ∨ k = 1 ∨ k = 2 ∨ k = 3 ∨ k = 4 ∨ k = 5 ∨ k = 6 by omega) with rfl | rfl | rfl | rfl | rfl | rfl | rfl <;> rfl)
  have hD := hI.2.1.set (p := 6) (e := .inl (G.2.2.1 3, 7, .inr (.inr (.inr (.inr (fun k => some (ad5 G h u (rfOf 60 k)))))))) rfl
  subst hu
  exact n_vret (B := B_X5_init G h) hC hI.2.2 hr hk d_X5_init_199 (fun k => [h, ob1, ob2, ob3, ob4, ob5, ob7, ob8, ob9, ob10, ob11, ob6].getD (k - 49) 0) (hP.sub [0, 1, 2, 3, 4, 5, 7, 8, 9, 10, 11, 6] rfl) (hD.sub [0, 1, 2, 3, 4, 5, 7, 8, 9, 10, 11, 6] (by decide) rfl)
