theorem d_X0_init_0 : decode cX0_init 0 = .ok (.aload_n 0, 1) := by decide +kernel
theorem d_X0_init_1 : decode cX0_init 1 = .ok (.invokespecial 3, 3) := by decide +kernel
theorem d_X0_init_4 : decode cX0_init 4 = .ok (.aload_n 0, 1) := by decide +kernel
theorem d_X0_init_5 : decode cX0_init 5 = .ok (.bipush 12, 2) := by decide +kernel
theorem d_X0_init_7 : decode cX0_init 7 = .ok (.putfield 9, 3) := by decide +kernel
theorem d_X0_init_10 : decode cX0_init 10 = .ok (.aload_n 0, 1) := by decide +kernel
theorem d_X0_init_11 : decode cX0_init 11 = .ok (.iconst 3, 1) := by decide +kernel
theorem d_X0_init_12 : decode cX0_init 12 = .ok (.putfield 15, 3) := by decide +kernel
theorem d_X0_init_15 : decode cX0_init 15 = .ok (.aload_n 0, 1) := by decide +kernel
theorem d_X0_init_16 : decode cX0_init 16 = .ok (.iconst 0, 1) := by decide +kernel
theorem d_X0_init_17 : decode cX0_init 17 = .ok (.putfield 18, 3) := by decide +kernel
theorem d_X0_init_20 : decode cX0_init 20 = .ok (.aload_n 0, 1) := by decide +kernel
theorem d_X0_init_21 : decode cX0_init 21 = .ok (.iconst 0, 1) := by decide +kernel
theorem d_X0_init_22 : decode cX0_init 22 = .ok (.putfield 21, 3) := by decide +kernel
theorem d_X0_init_25 : decode cX0_init 25 = .ok (.aload_n 0, 1) := by decide +kernel
theorem d_X0_init_26 : decode cX0_init 26 = .ok (.iconst 1, 1) := by decide +kernel
theorem d_X0_init_27 : decode cX0_init 27 = .ok (.putfield 24, 3) := by decide +kernel
theorem d_X0_init_30 : decode cX0_init 30 = .ok (.aload_n 0, 1) := by decide +kernel
theorem d_X0_init_31 : decode cX0_init 31 = .ok (.bipush 6, 2) := by decide +kernel
theorem d_X0_init_33 : decode cX0_init 33 = .ok (.newarray .int, 2) := by decide +kernel
theorem d_X0_init_35 : decode cX0_init 35 = .ok (.putfield 27, 3) := by decide +kernel
theorem d_X0_init_38 : decode cX0_init 38 = .ok (.aload_n 0, 1) := by decide +kernel
theorem d_X0_init_39 : decode cX0_init 39 = .ok (.bipush 10, 2) := by decide +kernel
theorem d_X0_init_41 : decode cX0_init 41 = .ok (.newarray .int, 2) := by decide +kernel
theorem d_X0_init_43 : decode cX0_init 43 = .ok (.putfield 31, 3) := by decide +kernel
theorem d_X0_init_46 : decode cX0_init 46 = .ok (.aload_n 0, 1) := by decide +kernel
theorem d_X0_init_47 : decode cX0_init 47 = .ok (.iconst 0, 1) := by decide +kernel
theorem d_X0_init_48 : decode cX0_init 48 = .ok (.putfield 34, 3) := by decide +kernel
theorem d_X0_init_51 : decode cX0_init 51 = .ok (.aload_n 0, 1) := by decide +kernel
theorem d_X0_init_52 : decode cX0_init 52 = .ok (.bipush 8, 2) := by decide +kernel
theorem d_X0_init_54 : decode cX0_init 54 = .ok (.anewarray 37, 3) := by decide +kernel
theorem d_X0_init_57 : decode cX0_init 57 = .ok (.putfield 39, 3) := by decide +kernel
theorem d_X0_init_60 : decode cX0_init 60 = .ok (.iconst 0, 1) := by decide +kernel
theorem d_X0_init_61 : decode cX0_init 61 = .ok (.istore_n 1, 1) := by decide +kernel
theorem d_X0_init_62 : decode cX0_init 62 = .ok (.iload_n 1, 1) := by decide +kernel
theorem d_X0_init_63 : decode cX0_init 63 = .ok (.bipush 6, 2) := by decide +kernel
theorem d_X0_init_65 : decode cX0_init 65 = .ok (.if_icmp .ge 16, 3) := by decide +kernel
theorem d_X0_init_68 : decode cX0_init 68 = .ok (.aload_n 0, 1) := by decide +kernel
theorem d_X0_init_69 : decode cX0_init 69 = .ok (.getfield 27, 3) := by decide +kernel
theorem d_X0_init_72 : decode cX0_init 72 = .ok (.iload_n 1, 1) := by decide +kernel
theorem d_X0_init_73 : decode cX0_init 73 = .ok (.iconst 1, 1) := by decide +kernel
theorem d_X0_init_74 : decode cX0_init 74 = .ok (.iastore, 1) := by decide +kernel
theorem d_X0_init_75 : decode cX0_init 75 = .ok (.iinc 1 1, 3) := by decide +kernel
theorem d_X0_init_78 : decode cX0_init 78 = .ok (.goto (-16), 3) := by decide +kernel
theorem d_X0_init_81 : decode cX0_init 81 = .ok (.iconst 0, 1) := by decide +kernel
theorem d_X0_init_82 : decode cX0_init 82 = .ok (.istore_n 1, 1) := by decide +kernel
theorem d_X0_init_83 : decode cX0_init 83 = .ok (.iload_n 1, 1) := by decide +kernel
theorem d_X0_init_84 : decode cX0_init 84 = .ok (.bipush 10, 2) := by decide +kernel
theorem d_X0_init_86 : decode cX0_init 86 = .ok (.if_icmp .ge 16, 3) := by decide +kernel
theorem d_X0_init_89 : decode cX0_init 89 = .ok (.aload_n 0, 1) := by decide +kernel
theorem d_X0_init_90 : decode cX0_init 90 = .ok (.getfield 31, 3) := by decide +kernel
theorem d_X0_init_93 : decode cX0_init 93 = .ok (.iload_n 1, 1) := by decide +kernel
theorem d_X0_init_94 : decode cX0_init 94 = .ok (.iconst (-1), 1) := by decide +kernel
theorem d_X0_init_95 : decode cX0_init 95 = .ok (.iastore, 1) := by decide +kernel
theorem d_X0_init_96 : decode cX0_init 96 = .ok (.iinc 1 1, 3) := by decide +kernel
theorem d_X0_init_99 : decode cX0_init 99 = .ok (.goto (-16), 3) := by decide +kernel
theorem d_X0_init_102 : decode cX0_init 102 = .ok (.iconst 0, 1) := by decide +kernel
theorem d_X0_init_103 : decode cX0_init 103 = .ok (.istore_n 1, 1) := by decide +kernel
theorem d_X0_init_104 : decode cX0_init 104 = .ok (.iload_n 1, 1) := by decide +kernel
theorem d_X0_init_105 : decode cX0_init 105 = .ok (.bipush 8, 2) := by decide +kernel
theorem d_X0_init_107 : decode cX0_init 107 = .ok (.if_icmp .ge 22, 3) := by decide +kernel
theorem d_X0_init_110 : decode cX0_init 110 = .ok (.aload_n 0, 1) := by decide +kernel
theorem d_X0_init_111 : decode cX0_init 111 = .ok (.getfield 39, 3) := by decide +kernel
theorem d_X0_init_114 : decode cX0_init 114 = .ok (.iload_n 1, 1) := by decide +kernel
theorem d_X0_init_115 : decode cX0_init 115 = .ok (.new 37, 3) := by decide +kernel
theorem d_X0_init_118 : decode cX0_init 118 = .ok (.dup, 1) := by decide +kernel
theorem d_X0_init_119 : decode cX0_init 119 = .ok (.invokespecial 43, 3) := by decide +kernel
theorem d_X0_init_122 : decode cX0_init 122 = .ok (.aastore, 1) := by decide +kernel
theorem d_X0_init_123 : decode cX0_init 123 = .ok (.iinc 1 1, 3) := by decide +kernel
theorem d_X0_init_126 : decode cX0_init 126 = .ok (.goto (-22), 3) := by decide +kernel
theorem d_X0_init_129 : decode cX0_init 129 = .ok (.return_, 1) := by decide +kernel
def B_X0_init (G : Gm) (h : Nat) (u : Nat → Nat) : va_W := [(h, .inr (0, [.int 12, .int 3, .int 0, .int 0, .int 1, .ref (u 0), .ref (u 1), .int 0, .ref (u 2)])), ((u 0), .inl (G.2.2.1 0, 6, .inl (flF 1 6 0 (fun _ => 0)))), ((u 1), .inl (G.2.2.1 0, 10, .inl (flF (-1) 10 0 (fun _ => 0)))), ((u 2), .inl (G.2.2.1 1, 8, .inr (.inr (.inr (.inr (fun j => some (u (3 + j)))))))), ((u 3), .inr (1, [.int 0, .int 0, .int 0, .int 0, .int 0, .int 0])), ((u 4), .inr (1, [.int 0, .int 0, .int 0, .int 0, .int 0, .int 0])), ((u 5), .inr (1, [.int 0, .int 0, .int 0, .int 0, .int 0, .int 0])), ((u 6), .inr (1, [.int 0, .int 0, .int 0, .int 0, .int 0, .int 0])), ((u 7), .inr (1, [.int 0, .int 0, .int 0, .int 0, .int 0, .int 0])), ((u 8), .inr (1, [.int 0, .int 0, .int 0, .int 0, .int 0, .int 0])), ((u 9), .inr (1, [.int 0, .int 0, .int 0, .int 0, .int 0, .int 0])), ((u 10), .inr (1, [.int 0, .int 0, .int 0, .int 0, .int 0, .int 0]))]
set_option maxHeartbeats 4000000 in
set_option maxRecDepth 100000 in
theorem lp_X0_62 {p : Program} {l : Launch} {e : Env} {R : Room} {s : State} {m : MethodId} {args : Array Value} {below : List Frame} {meth : Method} {c : Code} {cells slots : Nat} {Q : State → Prop} {G : Gm} {A : Nat → Prop} {h ob1 ob2 ob3 : Nat} (hC : CxI p s m args c 2 cX0_init RX0 G A) : ∀ (n i : Nat) (x : Int32) (f : Nat → Int32) (H : Heap) (locs : List Loc) (ls : Array Slot), i + n = 6 → x = nI i → WI s G A [(h, .inr (0, [.int 12, .int 3, .int 0, .int 0, .int 1, .ref ob1, .ref ob2, .int 0, .ref ob3])), (ob1, .inl (G.2.2.1 0, 6, .inl (f))), (ob2, .inl (G.2.2.1 0, 10, .inl (fun _ => 0))), (ob3, .inl (G.2.2.1 1, 8, .inr (.inr (.inr (.inr (fun _ => none))))))] H locs → lv_has ls 2 [(1, .int x), (0, .ref h)] → (∀ (H : Heap) (locs : List Loc) (ls : Array Slot), WI s G A [(h, .inr (0, [.int 12, .int 3, .int 0, .int 0, .int 1, .ref ob1, .ref ob2, .int 0, .ref ob3])), (ob1, .inl (G.2.2.1 0, 6, .inl (flF 1 n (i) f))), (ob2, .inl (G.2.2.1 0, 10, .inl (fun _ => 0))), (ob3, .inl (G.2.2.1 1, 8, .inr (.inr (.inr (.inr (fun _ => none))))))] H locs → lv_has ls 2 [(1, .int 6), (0, .ref h)] → W p l e R s m args below meth c H locs cells slots Q (F0 m 81 ls [])) → W p l e R s m args below meth c H locs cells slots Q (F0 m 62 ls []) := by
  intro n
  induction n with
  | zero =>
    intro i x f H locs ls hi hx hI hl kk
    have e1 : i = 6 := by omega
    subst e1
    have e2 : x = 6 := hx
    subst e2
    refine lv_iload_n hC.1.1 hC.1.2.1 d_X0_init_62 rfl (lv_at hl 0 rfl) ?_
    refine lv_bipush (v := 6) hC.1.1 hC.1.2.1 d_X0_init_63 (by decide) ?_
    refine lv_icmp_ge (tgt := 81) hC.1.1 hC.1.2.1 d_X0_init_65 (by decide) (fun _ => ?_) (fun z => absurd (by decide) z)
    exact kk H locs ls hI hl
  | succ n ih =>
    intro i x f H locs ls hi hx hI hl kk
    have ex : (x).toNatClampNeg = i := by rw [hx]; exact nI_cl (by omega)
    have hv : vp_in (x) 6 := by rw [hx]; exact vp_in_nI (by omega) (by decide)
    refine lv_iload_n hC.1.1 hC.1.2.1 d_X0_init_62 rfl (lv_at hl 0 rfl) ?_
    refine lv_bipush (v := 6) hC.1.1 hC.1.2.1 d_X0_init_63 (by decide) ?_
    refine lv_icmp_ge (tgt := 81) hC.1.1 hC.1.2.1 d_X0_init_65 (by decide) (fun z => absurd z (by rw [hx]; exact nI_ge (b := 6) (by omega) (by decide))) (fun _ => ?_)
    refine lv_aload_n hC.1.1 hC.1.2.1 d_X0_init_68 rfl (lv_at hl 1 rfl) ?_
    refine n_get (ci := 0) (k := 5) (v := .ref ob1) hC hI 0 rfl (by decide) (by decide) q79 rfl d_X0_init_69 ?_
    refine lv_iload_n hC.1.1 hC.1.2.1 d_X0_init_72 rfl (lv_at hl 0 rfl) ?_
    refine lv_iconst (v := 1) hC.1.1 hC.1.2.1 d_X0_init_73 (by decide) ?_
    refine n_iast hC hI 1 rfl hv d_X0_init_74 (fun H locs hI => ?_)
    rw [ex] at hI
    have hI : WI s G A [(h, .inr (0, [.int 12, .int 3, .int 0, .int 0, .int 1, .ref ob1, .ref ob2, .int 0, .ref ob3])), (ob1, .inl (G.2.2.1 0, 6, .inl (upd f (i) 1))), (ob2, .inl (G.2.2.1 0, 10, .inl (fun _ => 0))), (ob3, .inl (G.2.2.1 1, 8, .inr (.inr (.inr (.inr (fun _ => none))))))] H locs := hI
    refine lv_iinc (v := x + 1) (lv' := [(1, .int (x + 1)), (0, .ref h)]) hC.1.1 hC.1.2.1 d_X0_init_75 hl (k := 0) rfl rfl (by decide) rfl (fun ls hl => ?_)
    refine lv_goto (tgt := 62) hC.1.1 hC.1.2.1 d_X0_init_78 (by decide) ?_
    exact ih (i + 1) (x + 1) (upd f (i) 1) H locs ls (by omega) (by rw [hx]; exact nI_1 i) hI hl kk
set_option maxHeartbeats 4000000 in
set_option maxRecDepth 100000 in
theorem lp_X0_83 {p : Program} {l : Launch} {e : Env} {R : Room} {s : State} {m : MethodId} {args : Array Value} {below : List Frame} {meth : Method} {c : Code} {cells slots : Nat} {Q : State → Prop} {G : Gm} {A : Nat → Prop} {h ob1 ob2 ob3 : Nat} (hC : CxI p s m args c 2 cX0_init RX0 G A) : ∀ (n i : Nat) (x : Int32) (f : Nat → Int32) (H : Heap) (locs : List Loc) (ls : Array Slot), i + n = 10 → x = nI i → WI s G A [(h, .inr (0, [.int 12, .int 3, .int 0, .int 0, .int 1, .ref ob1, .ref ob2, .int 0, .ref ob3])), (ob1, .inl (G.2.2.1 0, 6, .inl (flF 1 6 0 (fun _ => 0)))), (ob2, .inl (G.2.2.1 0, 10, .inl (f))), (ob3, .inl (G.2.2.1 1, 8, .inr (.inr (.inr (.inr (fun _ => none))))))] H locs → lv_has ls 2 [(1, .int x), (0, .ref h)] → (∀ (H : Heap) (locs : List Loc) (ls : Array Slot), WI s G A [(h, .inr (0, [.int 12, .int 3, .int 0, .int 0, .int 1, .ref ob1, .ref ob2, .int 0, .ref ob3])), (ob1, .inl (G.2.2.1 0, 6, .inl (flF 1 6 0 (fun _ => 0)))), (ob2, .inl (G.2.2.1 0, 10, .inl (flF (-1) n (i) f))), (ob3, .inl (G.2.2.1 1, 8, .inr (.inr (.inr (.inr (fun _ => none))))))] H locs → lv_has ls 2 [(1, .int 10), (0, .ref h)] → W p l e R s m args below meth c H locs cells slots Q (F0 m 102 ls [])) → W p l e R s m args below meth c H locs cells slots Q (F0 m 83 ls []) := by
  intro n
  induction n with
  | zero =>
    intro i x f H locs ls hi hx hI hl kk
    have e1 : i = 10 := by omega
    subst e1
    have e2 : x = 10 := hx
    subst e2
    refine lv_iload_n hC.1.1 hC.1.2.1 d_X0_init_83 rfl (lv_at hl 0 rfl) ?_
    refine lv_bipush (v := 10) hC.1.1 hC.1.2.1 d_X0_init_84 (by decide) ?_
    refine lv_icmp_ge (tgt := 102) hC.1.1 hC.1.2.1 d_X0_init_86 (by decide) (fun _ => ?_) (fun z => absurd (by decide) z)
    exact kk H locs ls hI hl
  | succ n ih =>
    intro i x f H locs ls hi hx hI hl kk
    have ex : (x).toNatClampNeg = i := by rw [hx]; exact nI_cl (by omega)
    have hv : vp_in (x) 10 := by rw [hx]; exact vp_in_nI (by omega) (by decide)
    refine lv_iload_n hC.1.1 hC.1.2.1 d_X0_init_83 rfl (lv_at hl 0 rfl) ?_
    refine lv_bipush (v := 10) hC.1.1 hC.1.2.1 d_X0_init_84 (by decide) ?_
    refine lv_icmp_ge (tgt := 102) hC.1.1 hC.1.2.1 d_X0_init_86 (by decide) (fun z => absurd z (by rw [hx]; exact nI_ge (b := 10) (by omega) (by decide))) (fun _ => ?_)
    refine lv_aload_n hC.1.1 hC.1.2.1 d_X0_init_89 rfl (lv_at hl 1 rfl) ?_
    refine n_get (ci := 0) (k := 6) (v := .ref ob2) hC hI 0 rfl (by decide) (by decide) q82 rfl d_X0_init_90 ?_
    refine lv_iload_n hC.1.1 hC.1.2.1 d_X0_init_93 rfl (lv_at hl 0 rfl) ?_
    refine lv_iconst (v := (-1)) hC.1.1 hC.1.2.1 d_X0_init_94 (by decide) ?_
    refine n_iast hC hI 2 rfl hv d_X0_init_95 (fun H locs hI => ?_)
    rw [ex] at hI
    have hI : WI s G A [(h, .inr (0, [.int 12, .int 3, .int 0, .int 0, .int 1, .ref ob1, .ref ob2, .int 0, .ref ob3])), (ob1, .inl (G.2.2.1 0, 6, .inl (flF 1 6 0 (fun _ => 0)))), (ob2, .inl (G.2.2.1 0, 10, .inl (upd f (i) (-1)))), (ob3, .inl (G.2.2.1 1, 8, .inr (.inr (.inr (.inr (fun _ => none))))))] H locs := hI
    refine lv_iinc (v := x + 1) (lv' := [(1, .int (x + 1)), (0, .ref h)]) hC.1.1 hC.1.2.1 d_X0_init_96 hl (k := 0) rfl rfl (by decide) rfl (fun ls hl => ?_)
    refine lv_goto (tgt := 83) hC.1.1 hC.1.2.1 d_X0_init_99 (by decide) ?_
    exact ih (i + 1) (x + 1) (upd f (i) (-1)) H locs ls (by omega) (by rw [hx]; exact nI_1 i) hI hl kk
set_option maxHeartbeats 4000000 in
set_option maxRecDepth 100000 in
theorem c_X0_init {l : Launch} {G : Gm} : CTI l G yX0_init (wsOf yX0_init cX0_init 2 none) 3 0 [.int 0, .int 0, .int 0, .int 0, .int 0, .null, .null, .int 0, .null] (B_X0_init G) 11 72 := by
  refine met_I (by decide +kernel) rfl rfl (by decide) ?_
  intro h p e s m args below meth c A ls hC hin hr hk hI hl
  generalize s.heap = H at hI ⊢
  generalize ([] : List Loc) = locs at hI ⊢
  refine lv_aload_n hC.1.1 hC.1.2.1 d_X0_init_0 rfl (lv_at hl 0 rfl) ?_
  refine n_obj hC hl.1 q27 d_X0_init_1 (Nat.le_of_ble_eq_true rfl) (Nat.le_of_ble_eq_true rfl) ?_
  refine lv_aload_n hC.1.1 hC.1.2.1 d_X0_init_4 rfl (lv_at hl 0 rfl) ?_
  refine lv_bipush (v := 12) hC.1.1 hC.1.2.1 d_X0_init_5 (by decide) ?_
  refine n_put (ci := 0) (k := 0) hC hI 0 rfl (by decide) (by decide) q67 rfl rfl rfl (Nat.le_of_ble_eq_true rfl) d_X0_init_7 (fun H locs hI => ?_)
  have hI : WI s G A [(h, .inr (0, [.int 12, .int 0, .int 0, .int 0, .int 0, .null, .null, .int 0, .null]))] H locs := hI
  refine lv_aload_n hC.1.1 hC.1.2.1 d_X0_init_10 rfl (lv_at hl 0 rfl) ?_
  refine lv_iconst (v := 3) hC.1.1 hC.1.2.1 d_X0_init_11 (by decide) ?_
  refine n_put (ci := 0) (k := 1) hC hI 0 rfl (by decide) (by decide) q70 rfl rfl rfl (Nat.le_of_ble_eq_true rfl) d_X0_init_12 (fun H locs hI => ?_)
  have hI : WI s G A [(h, .inr (0, [.int 12, .int 3, .int 0, .int 0, .int 0, .null, .null, .int 0, .null]))] H locs := hI
  refine lv_aload_n hC.1.1 hC.1.2.1 d_X0_init_15 rfl (lv_at hl 0 rfl) ?_
  refine lv_iconst (v := 0) hC.1.1 hC.1.2.1 d_X0_init_16 (by decide) ?_
  refine n_put (ci := 0) (k := 2) hC hI 0 rfl (by decide) (by decide) q73 rfl rfl rfl (Nat.le_of_ble_eq_true rfl) d_X0_init_17 (fun H locs hI => ?_)
  have hI : WI s G A [(h, .inr (0, [.int 12, .int 3, .int 0, .int 0, .int 0, .null, .null, .int 0, .null]))] H locs := hI
  refine lv_aload_n hC.1.1 hC.1.2.1 d_X0_init_20 rfl (lv_at hl 0 rfl) ?_
  refine lv_iconst (v := 0) hC.1.1 hC.1.2.1 d_X0_init_21 (by decide) ?_
  refine n_put (ci := 0) (k := 3) hC hI 0 rfl (by decide) (by decide) q75 rfl rfl rfl (Nat.le_of_ble_eq_true rfl) d_X0_init_22 (fun H locs hI => ?_)
  have hI : WI s G A [(h, .inr (0, [.int 12, .int 3, .int 0, .int 0, .int 0, .null, .null, .int 0, .null]))] H locs := hI
  refine lv_aload_n hC.1.1 hC.1.2.1 d_X0_init_25 rfl (lv_at hl 0 rfl) ?_
  refine lv_iconst (v := 1) hC.1.1 hC.1.2.1 d_X0_init_26 (by decide) ?_
  refine n_put (ci := 0) (k := 4) hC hI 0 rfl (by decide) (by decide) q77 rfl rfl rfl (Nat.le_of_ble_eq_true rfl) d_X0_init_27 (fun H locs hI => ?_)
  have hI : WI s G A [(h, .inr (0, [.int 12, .int 3, .int 0, .int 0, .int 1, .null, .null, .int 0, .null]))] H locs := hI
  refine lv_aload_n hC.1.1 hC.1.2.1 d_X0_init_30 rfl (lv_at hl 0 rfl) ?_
  refine lv_bipush (v := 6) hC.1.1 hC.1.2.1 d_X0_init_31 (by decide) ?_
  refine n_newa (N := 6) hC hI (by decide) (by decide) (Nat.le_of_ble_eq_true rfl) (Nat.le_of_ble_eq_true rfl) (Nat.le_of_ble_eq_true rfl) d_X0_init_33 (fun ob1 H hI => ?_)
  have hI : WI s G A [(h, .inr (0, [.int 12, .int 3, .int 0, .int 0, .int 1, .null, .null, .int 0, .null])), (ob1, .inl (G.2.2.1 0, 6, .inl (fun _ => 0)))] H locs := hI
  refine n_putF (ci := 0) (k := 5) hC hI hin 0 rfl (by decide) (by decide) q79 rfl rfl rfl rfl (Nat.le_of_ble_eq_true rfl) d_X0_init_35 (fun H locs hI => ?_)
  have hI : WI s G A [(h, .inr (0, [.int 12, .int 3, .int 0, .int 0, .int 1, .ref ob1, .null, .int 0, .null])), (ob1, .inl (G.2.2.1 0, 6, .inl (fun _ => 0)))] H locs := hI
  refine lv_aload_n hC.1.1 hC.1.2.1 d_X0_init_38 rfl (lv_at hl 0 rfl) ?_
  refine lv_bipush (v := 10) hC.1.1 hC.1.2.1 d_X0_init_39 (by decide) ?_
  refine n_newa (N := 10) hC hI (by decide) (by decide) (Nat.le_of_ble_eq_true rfl) (Nat.le_of_ble_eq_true rfl) (Nat.le_of_ble_eq_true rfl) d_X0_init_41 (fun ob2 H hI => ?_)
  have hI : WI s G A [(h, .inr (0, [.int 12, .int 3, .int 0, .int 0, .int 1, .ref ob1, .null, .int 0, .null])), (ob1, .inl (G.2.2.1 0, 6, .inl (fun _ => 0))), (ob2, .inl (G.2.2.1 0, 10, .inl (fun _ => 0)))] H locs := hI
  refine n_putF (ci := 0) (k := 6) hC hI hin 0 rfl (by decide) (by decide) q82 rfl rfl rfl rfl (Nat.le_of_ble_eq_true rfl) d_X0_init_43 (fun H locs hI => ?_)
  have hI : WI s G A [(h, .inr (0, [.int 12, .int 3, .int 0, .int 0, .int 1, .ref ob1, .ref ob2, .int 0, .null])), (ob1, .inl (G.2.2.1 0, 6, .inl (fun _ => 0))), (ob2, .inl (G.2.2.1 0, 10, .inl (fun _ => 0)))] H locs := hI
  refine lv_aload_n hC.1.1 hC.1.2.1 d_X0_init_46 rfl (lv_at hl 0 rfl) ?_
  refine lv_iconst (v := 0) hC.1.1 hC.1.2.1 d_X0_init_47 (by decide) ?_
  refine n_put (ci := 0) (k := 7) hC hI 0 rfl (by decide) (by decide) q84 rfl rfl rfl (Nat.le_of_ble_eq_true rfl) d_X0_init_48 (fun H locs hI => ?_)
  have hI : WI s G A [(h, .inr (0, [.int 12, .int 3, .int 0, .int 0, .int 1, .ref ob1, .ref ob2, .int 0, .null])), (ob1, .inl (G.2.2.1 0, 6, .inl (fun _ => 0))), (ob2, .inl (G.2.2.1 0, 10, .inl (fun _ => 0)))] H locs := hI
  refine lv_aload_n hC.1.1 hC.1.2.1 d_X0_init_51 rfl (lv_at hl 0 rfl) ?_
  refine lv_bipush (v := 8) hC.1.1 hC.1.2.1 d_X0_init_52 (by decide) ?_
  refine n_newq (C := "ToastCourt$Disputant") (t := 1) (N := 8) hC hI rfl hC.2.1.2.2.1.1 q28 (by decide) (by decide) (Nat.le_of_ble_eq_true rfl) (Nat.le_of_ble_eq_true rfl) (Nat.le_of_ble_eq_true rfl) d_X0_init_54 (fun ob3 H hI => ?_)
  have hI : WI s G A [(h, .inr (0, [.int 12, .int 3, .int 0, .int 0, .int 1, .ref ob1, .ref ob2, .int 0, .null])), (ob1, .inl (G.2.2.1 0, 6, .inl (fun _ => 0))), (ob2, .inl (G.2.2.1 0, 10, .inl (fun _ => 0))), (ob3, .inl (G.2.2.1 1, 8, .inr (.inr (.inr (.inr (fun _ => none))))))] H locs := hI
  refine n_putF (ci := 0) (k := 8) hC hI hin 0 rfl (by decide) (by decide) q86 rfl rfl rfl rfl (Nat.le_of_ble_eq_true rfl) d_X0_init_57 (fun H locs hI => ?_)
  have hI : WI s G A [(h, .inr (0, [.int 12, .int 3, .int 0, .int 0, .int 1, .ref ob1, .ref ob2, .int 0, .ref ob3])), (ob1, .inl (G.2.2.1 0, 6, .inl (fun _ => 0))), (ob2, .inl (G.2.2.1 0, 10, .inl (fun _ => 0))), (ob3, .inl (G.2.2.1 1, 8, .inr (.inr (.inr (.inr (fun _ => none))))))] H locs := hI
  refine lv_iconst (v := 0) hC.1.1 hC.1.2.1 d_X0_init_60 (by decide) ?_
  refine lv_istore_n (lv' := [(1, .int 0), (0, .ref h)]) hC.1.1 hC.1.2.1 d_X0_init_61 rfl hl (by decide) rfl (fun ls hl => ?_)
  refine lp_X0_62 hC 6 0 0 (fun _ => 0) H locs ls rfl nI_0.symm hI hl (fun H locs ls hI hl => ?_)
  have hI : WI s G A [(h, .inr (0, [.int 12, .int 3, .int 0, .int 0, .int 1, .ref ob1, .ref ob2, .int 0, .ref ob3])), (ob1, .inl (G.2.2.1 0, 6, .inl (flF 1 6 0 (fun _ => 0)))), (ob2, .inl (G.2.2.1 0, 10, .inl (fun _ => 0))), (ob3, .inl (G.2.2.1 1, 8, .inr (.inr (.inr (.inr (fun _ => none))))))] H locs := hI
  refine lv_iconst (v := 0) hC.1.1 hC.1.2.1 d_X0_init_81 (by decide) ?_
  refine lv_istore_n (lv' := [(1, .int 0), (0, .ref h)]) hC.1.1 hC.1.2.1 d_X0_init_82 rfl hl (by decide) rfl (fun ls hl => ?_)
  refine lp_X0_83 hC 10 0 0 (fun _ => 0) H locs ls rfl nI_0.symm hI hl (fun H locs ls hI hl => ?_)
  have hI : WI s G A [(h, .inr (0, [.int 12, .int 3, .int 0, .int 0, .int 1, .ref ob1, .ref ob2, .int 0, .ref ob3])), (ob1, .inl (G.2.2.1 0, 6, .inl (flF 1 6 0 (fun _ => 0)))), (ob2, .inl (G.2.2.1 0, 10, .inl (flF (-1) 10 0 (fun _ => 0)))), (ob3, .inl (G.2.2.1 1, 8, .inr (.inr (.inr (.inr (fun _ => none))))))] H locs := hI
  refine lv_iconst (v := 0) hC.1.1 hC.1.2.1 d_X0_init_102 (by decide) ?_
  refine lv_istore_n (lv' := [(1, .int 0), (0, .ref h)]) hC.1.1 hC.1.2.1 d_X0_init_103 rfl hl (by decide) rfl (fun ls hl => ?_)
  refine lv_iload_n hC.1.1 hC.1.2.1 d_X0_init_104 rfl (lv_at hl 0 rfl) ?_
  refine lv_bipush (v := 8) hC.1.1 hC.1.2.1 d_X0_init_105 (by decide) ?_
  refine lv_icmp_ge (tgt := 129) hC.1.1 hC.1.2.1 d_X0_init_107 (by decide) (fun z => absurd z (by decide)) (fun _ => ?_)
  refine lv_aload_n hC.1.1 hC.1.2.1 d_X0_init_110 rfl (lv_at hl 1 rfl) ?_
  refine n_get (ci := 0) (k := 8) (v := .ref ob3) hC hI 0 rfl (by decide) (by decide) q86 rfl d_X0_init_111 ?_
  refine lv_iload_n hC.1.1 hC.1.2.1 d_X0_init_114 rfl (lv_at hl 0 rfl) ?_
  refine n_new (ci := 1) (fs := [.int 0, .int 0, .int 0, .int 0, .int 0, .int 0]) hC hI (by decide) q28 q30 q3 df_X1 (Nat.le_of_ble_eq_true rfl) (Nat.le_of_ble_eq_true rfl) d_X0_init_115 (fun ob4 H hI => ?_)
  have hI : WI s G A [(h, .inr (0, [.int 12, .int 3, .int 0, .int 0, .int 1, .ref ob1, .ref ob2, .int 0, .ref ob3])), (ob1, .inl (G.2.2.1 0, 6, .inl (flF 1 6 0 (fun _ => 0)))), (ob2, .inl (G.2.2.1 0, 10, .inl (flF (-1) 10 0 (fun _ => 0)))), (ob3, .inl (G.2.2.1 1, 8, .inr (.inr (.inr (.inr (fun _ => none)))))), (ob4, .inr (1, [.int 0, .int 0, .int 0, .int 0, .int 0, .int 0]))] H locs := hI
  refine lv_dup hC.1.1 hC.1.2.1 d_X0_init_118 rfl ?_
  refine n_callN (wr := [(h, .inr (0, [.int 12, .int 3, .int 0, .int 0, .int 1, .ref ob1, .ref ob2, .int 0, .ref ob3])), (ob1, .inl (G.2.2.1 0, 6, .inl (flF 1 6 0 (fun _ => 0)))), (ob2, .inl (G.2.2.1 0, 10, .inl (flF (-1) 10 0 (fun _ => 0)))), (ob3, .inl (G.2.2.1 1, 8, .inr (.inr (.inr (.inr (fun _ => none))))))]) c_X1_init hC hI hl.1 4 rfl [0, 1, 2, 3] rfl rfl (by decide) q31 q32 q3 q33 rfl ⟨by decide +kernel, by decide +kernel, by decide +kernel⟩ ⟨Nat.le_of_ble_eq_true rfl, Nat.le_of_ble_eq_true rfl⟩ (Nat.le_of_ble_eq_true rfl) d_X0_init_119 ⟨Nat.le_of_ble_eq_true rfl, Nat.le_of_ble_eq_true rfl⟩ (fun u5 H locs hI => ?_)
  have hI : WI s G A [(h, .inr (0, [.int 12, .int 3, .int 0, .int 0, .int 1, .ref ob1, .ref ob2, .int 0, .ref ob3])), (ob1, .inl (G.2.2.1 0, 6, .inl (flF 1 6 0 (fun _ => 0)))), (ob2, .inl (G.2.2.1 0, 10, .inl (flF (-1) 10 0 (fun _ => 0)))), (ob3, .inl (G.2.2.1 1, 8, .inr (.inr (.inr (.inr (fun _ => none)))))), (ob4, .inr (1, [.int 0, .int 0, .int 0, .int 0, .int 0, .int 0]))] H locs := hI
  refine n_astq (ci := 1) (t := 1) hC hI 3 4 rfl rfl rfl (by decide) (vp_in_nI (n := 0) (by decide) (by decide)) d_X0_init_122 (fun H locs hI => ?_)
  have hI : WI s G A [(h, .inr (0, [.int 12, .int 3, .int 0, .int 0, .int 1, .ref ob1, .ref ob2, .int 0, .ref ob3])), (ob1, .inl (G.2.2.1 0, 6, .inl (flF 1 6 0 (fun _ => 0)))), (ob2, .inl (G.2.2.1 0, 10, .inl (flF (-1) 10 0 (fun _ => 0)))), (ob3, .inl (G.2.2.1 1, 8, .inr (.inr (.inr (.inr (va_up (fun _ => none) 0 (some ob4))))))), (ob4, .inr (1, [.int 0, .int 0, .int 0, .int 0, .int 0, .int 0]))] H locs := hI
  refine lv_iinc (v := 1) (lv' := [(1, .int 1), (0, .ref h)]) hC.1.1 hC.1.2.1 d_X0_init_123 hl (k := 0) rfl (by decide) (by decide) rfl (fun ls hl => ?_)
  refine lv_goto (tgt := 104) hC.1.1 hC.1.2.1 d_X0_init_126 (by decide) ?_
  refine lv_iload_n hC.1.1 hC.1.2.1 d_X0_init_104 rfl (lv_at hl 0 rfl) ?_
  refine lv_bipush (v := 8) hC.1.1 hC.1.2.1 d_X0_init_105 (by decide) ?_
  refine lv_icmp_ge (tgt := 129) hC.1.1 hC.1.2.1 d_X0_init_107 (by decide) (fun z => absurd z (by decide)) (fun _ => ?_)
  refine lv_aload_n hC.1.1 hC.1.2.1 d_X0_init_110 rfl (lv_at hl 1 rfl) ?_
  refine n_get (ci := 0) (k := 8) (v := .ref ob3) hC hI 0 rfl (by decide) (by decide) q86 rfl d_X0_init_111 ?_
  refine lv_iload_n hC.1.1 hC.1.2.1 d_X0_init_114 rfl (lv_at hl 0 rfl) ?_
  refine n_new (ci := 1) (fs := [.int 0, .int 0, .int 0, .int 0, .int 0, .int 0]) hC hI (by decide) q28 q30 q3 df_X1 (Nat.le_of_ble_eq_true rfl) (Nat.le_of_ble_eq_true rfl) d_X0_init_115 (fun ob6 H hI => ?_)
  have hI : WI s G A [(h, .inr (0, [.int 12, .int 3, .int 0, .int 0, .int 1, .ref ob1, .ref ob2, .int 0, .ref ob3])), (ob1, .inl (G.2.2.1 0, 6, .inl (flF 1 6 0 (fun _ => 0)))), (ob2, .inl (G.2.2.1 0, 10, .inl (flF (-1) 10 0 (fun _ => 0)))), (ob3, .inl (G.2.2.1 1, 8, .inr (.inr (.inr (.inr (va_up (fun _ => none) 0 (some ob4))))))), (ob4, .inr (1, [.int 0, .int 0, .int 0, .int 0, .int 0, .int 0])), (ob6, .inr (1, [.int 0, .int 0, .int 0, .int 0, .int 0, .int 0]))] H locs := hI
  refine lv_dup hC.1.1 hC.1.2.1 d_X0_init_118 rfl ?_
  refine n_callN (wr := [(h, .inr (0, [.int 12, .int 3, .int 0, .int 0, .int 1, .ref ob1, .ref ob2, .int 0, .ref ob3])), (ob1, .inl (G.2.2.1 0, 6, .inl (flF 1 6 0 (fun _ => 0)))), (ob2, .inl (G.2.2.1 0, 10, .inl (flF (-1) 10 0 (fun _ => 0)))), (ob3, .inl (G.2.2.1 1, 8, .inr (.inr (.inr (.inr (va_up (fun _ => none) 0 (some ob4))))))), (ob4, .inr (1, [.int 0, .int 0, .int 0, .int 0, .int 0, .int 0]))]) c_X1_init hC hI hl.1 5 rfl [0, 1, 2, 3, 4] rfl rfl (by decide) q31 q32 q3 q33 rfl ⟨by decide +kernel, by decide +kernel, by decide +kernel⟩ ⟨Nat.le_of_ble_eq_true rfl, Nat.le_of_ble_eq_true rfl⟩ (Nat.le_of_ble_eq_true rfl) d_X0_init_119 ⟨Nat.le_of_ble_eq_true rfl, Nat.le_of_ble_eq_true rfl⟩ (fun u7 H locs hI => ?_)
  have hI : WI s G A [(h, .inr (0, [.int 12, .int 3, .int 0, .int 0, .int 1, .ref ob1, .ref ob2, .int 0, .ref ob3])), (ob1, .inl (G.2.2.1 0, 6, .inl (flF 1 6 0 (fun _ => 0)))), (ob2, .inl (G.2.2.1 0, 10, .inl (flF (-1) 10 0 (fun _ => 0)))), (ob3, .inl (G.2.2.1 1, 8, .inr (.inr (.inr (.inr (va_up (fun _ => none) 0 (some ob4))))))), (ob4, .inr (1, [.int 0, .int 0, .int 0, .int 0, .int 0, .int 0])), (ob6, .inr (1, [.int 0, .int 0, .int 0, .int 0, .int 0, .int 0]))] H locs := hI
  refine n_astq (ci := 1) (t := 1) hC hI 3 5 rfl rfl rfl (by decide) (vp_in_nI (n := 1) (by decide) (by decide)) d_X0_init_122 (fun H locs hI => ?_)
  have hI : WI s G A [(h, .inr (0, [.int 12, .int 3, .int 0, .int 0, .int 1, .ref ob1, .ref ob2, .int 0, .ref ob3])), (ob1, .inl (G.2.2.1 0, 6, .inl (flF 1 6 0 (fun _ => 0)))), (ob2, .inl (G.2.2.1 0, 10, .inl (flF (-1) 10 0 (fun _ => 0)))), (ob3, .inl (G.2.2.1 1, 8, .inr (.inr (.inr (.inr (va_up (va_up (fun _ => none) 0 (some ob4)) 1 (some ob6))))))), (ob4, .inr (1, [.int 0, .int 0, .int 0, .int 0, .int 0, .int 0])), (ob6, .inr (1, [.int 0, .int 0, .int 0, .int 0, .int 0, .int 0]))] H locs := hI
  refine lv_iinc (v := 2) (lv' := [(1, .int 2), (0, .ref h)]) hC.1.1 hC.1.2.1 d_X0_init_123 hl (k := 0) rfl (by decide) (by decide) rfl (fun ls hl => ?_)
  refine lv_goto (tgt := 104) hC.1.1 hC.1.2.1 d_X0_init_126 (by decide) ?_
  refine lv_iload_n hC.1.1 hC.1.2.1 d_X0_init_104 rfl (lv_at hl 0 rfl) ?_
  refine lv_bipush (v := 8) hC.1.1 hC.1.2.1 d_X0_init_105 (by decide) ?_
  refine lv_icmp_ge (tgt := 129) hC.1.1 hC.1.2.1 d_X0_init_107 (by decide) (fun z => absurd z (by decide)) (fun _ => ?_)
  refine lv_aload_n hC.1.1 hC.1.2.1 d_X0_init_110 rfl (lv_at hl 1 rfl) ?_
  refine n_get (ci := 0) (k := 8) (v := .ref ob3) hC hI 0 rfl (by decide) (by decide) q86 rfl d_X0_init_111 ?_
  refine lv_iload_n hC.1.1 hC.1.2.1 d_X0_init_114 rfl (lv_at hl 0 rfl) ?_
  refine n_new (ci := 1) (fs := [.int 0, .int 0, .int 0, .int 0, .int 0, .int 0]) hC hI (by decide) q28 q30 q3 df_X1 (Nat.le_of_ble_eq_true rfl) (Nat.le_of_ble_eq_true rfl) d_X0_init_115 (fun ob8 H hI => ?_)
  have hI : WI s G A [(h, .inr (0, [.int 12, .int 3, .int 0, .int 0, .int 1, .ref ob1, .ref ob2, .int 0, .ref ob3])), (ob1, .inl (G.2.2.1 0, 6, .inl (flF 1 6 0 (fun _ => 0)))), (ob2, .inl (G.2.2.1 0, 10, .inl (flF (-1) 10 0 (fun _ => 0)))), (ob3, .inl (G.2.2.1 1, 8, .inr (.inr (.inr (.inr (va_up (va_up (fun _ => none) 0 (some ob4)) 1 (some ob6))))))), (ob4, .inr (1, [.int 0, .int 0, .int 0, .int 0, .int 0, .int 0])), (ob6, .inr (1, [.int 0, .int 0, .int 0, .int 0, .int 0, .int 0])), (ob8, .inr (1, [.int 0, .int 0, .int 0, .int 0, .int 0, .int 0]))] H locs := hI
  refine lv_dup hC.1.1 hC.1.2.1 d_X0_init_118 rfl ?_
  refine n_callN (wr := [(h, .inr (0, [.int 12, .int 3, .int 0, .int 0, .int 1, .ref ob1, .ref ob2, .int 0, .ref ob3])), (ob1, .inl (G.2.2.1 0, 6, .inl (flF 1 6 0 (fun _ => 0)))), (ob2, .inl (G.2.2.1 0, 10, .inl (flF (-1) 10 0 (fun _ => 0)))), (ob3, .inl (G.2.2.1 1, 8, .inr (.inr (.inr (.inr (va_up (va_up (fun _ => none) 0 (some ob4)) 1 (some ob6))))))), (ob4, .inr (1, [.int 0, .int 0, .int 0, .int 0, .int 0, .int 0])), (ob6, .inr (1, [.int 0, .int 0, .int 0, .int 0, .int 0, .int 0]))]) c_X1_init hC hI hl.1 6 rfl [0, 1, 2, 3, 4, 5] rfl rfl (by decide) q31 q32 q3 q33 rfl ⟨by decide +kernel, by decide +kernel, by decide +kernel⟩ ⟨Nat.le_of_ble_eq_true rfl, Nat.le_of_ble_eq_true rfl⟩ (Nat.le_of_ble_eq_true rfl) d_X0_init_119 ⟨Nat.le_of_ble_eq_true rfl, Nat.le_of_ble_eq_true rfl⟩ (fun u9 H locs hI => ?_)
  have hI : WI s G A [(h, .inr (0, [.int 12, .int 3, .int 0, .int 0, .int 1, .ref ob1, .ref ob2, .int 0, .ref ob3])), (ob1, .inl (G.2.2.1 0, 6, .inl (flF 1 6 0 (fun _ => 0)))), (ob2, .inl (G.2.2.1 0, 10, .inl (flF (-1) 10 0 (fun _ => 0)))), (ob3, .inl (G.2.2.1 1, 8, .inr (.inr (.inr (.inr (va_up (va_up (fun _ => none) 0 (some ob4)) 1 (some ob6))))))), (ob4, .inr (1, [.int 0, .int 0, .int 0, .int 0, .int 0, .int 0])), (ob6, .inr (1, [.int 0, .int 0, .int 0, .int 0, .int 0, .int 0])), (ob8, .inr (1, [.int 0, .int 0, .int 0, .int 0, .int 0, .int 0]))] H locs := hI
  refine n_astq (ci := 1) (t := 1) hC hI 3 6 rfl rfl rfl (by decide) (vp_in_nI (n := 2) (by decide) (by decide)) d_X0_init_122 (fun H locs hI => ?_)
  have hI : WI s G A [(h, .inr (0, [.int 12, .int 3, .int 0, .int 0, .int 1, .ref ob1, .ref ob2, .int 0, .ref ob3])), (ob1, .inl (G.2.2.1 0, 6, .inl (flF 1 6 0 (fun _ => 0)))), (ob2, .inl (G.2.2.1 0, 10, .inl (flF (-1) 10 0 (fun _ => 0)))), (ob3, .inl (G.2.2.1 1, 8, .inr (.inr (.inr (.inr (va_up (va_up (va_up (fun _ => none) 0 (some ob4)) 1 (some ob6)) 2 (some ob8))))))), (ob4, .inr (1, [.int 0, .int 0, .int 0, .int 0, .int 0, .int 0])), (ob6, .inr (1, [.int 0, .int 0, .int 0, .int 0, .int 0, .int 0])), (ob8, .inr (1, [.int 0, .int 0, .int 0, .int 0, .int 0, .int 0]))] H locs := hI
  refine lv_iinc (v := 3) (lv' := [(1, .int 3), (0, .ref h)]) hC.1.1 hC.1.2.1 d_X0_init_123 hl (k := 0) rfl (by decide) (by decide) rfl (fun ls hl => ?_)
  refine lv_goto (tgt := 104) hC.1.1 hC.1.2.1 d_X0_init_126 (by decide) ?_
  refine lv_iload_n hC.1.1 hC.1.2.1 d_X0_init_104 rfl (lv_at hl 0 rfl) ?_
  refine lv_bipush (v := 8) hC.1.1 hC.1.2.1 d_X0_init_105 (by decide) ?_
  refine lv_icmp_ge (tgt := 129) hC.1.1 hC.1.2.1 d_X0_init_107 (by decide) (fun z => absurd z (by decide)) (fun _ => ?_)
  refine lv_aload_n hC.1.1 hC.1.2.1 d_X0_init_110 rfl (lv_at hl 1 rfl) ?_
  refine n_get (ci := 0) (k := 8) (v := .ref ob3) hC hI 0 rfl (by decide) (by decide) q86 rfl d_X0_init_111 ?_
  refine lv_iload_n hC.1.1 hC.1.2.1 d_X0_init_114 rfl (lv_at hl 0 rfl) ?_
  refine n_new (ci := 1) (fs := [.int 0, .int 0, .int 0, .int 0, .int 0, .int 0]) hC hI (by decide) q28 q30 q3 df_X1 (Nat.le_of_ble_eq_true rfl) (Nat.le_of_ble_eq_true rfl) d_X0_init_115 (fun ob10 H hI => ?_)
  have hI : WI s G A [(h, .inr (0, [.int 12, .int 3, .int 0, .int 0, .int 1, .ref ob1, .ref ob2, .int 0, .ref ob3])), (ob1, .inl (G.2.2.1 0, 6, .inl (flF 1 6 0 (fun _ => 0)))), (ob2, .inl (G.2.2.1 0, 10, .inl (flF (-1) 10 0 (fun _ => 0)))), (ob3, .inl (G.2.2.1 1, 8, .inr (.inr (.inr (.inr (va_up (va_up (va_up (fun _ => none) 0 (some ob4)) 1 (some ob6)) 2 (some ob8))))))), (ob4, .inr (1, [.int 0, .int 0, .int 0, .int 0, .int 0, .int 0])), (ob6, .inr (1, [.int 0, .int 0, .int 0, .int 0, .int 0, .int 0])), (ob8, .inr (1, [.int 0, .int 0, .int 0, .int 0, .int 0, .int 0])), (ob10, .inr (1, [.int 0, .int 0, .int 0, .int 0, .int 0, .int 0]))] H locs := hI
  refine lv_dup hC.1.1 hC.1.2.1 d_X0_init_118 rfl ?_
  refine n_callN (wr := [(h, .inr (0, [.int 12, .int 3, .int 0, .int 0, .int 1, .ref ob1, .ref ob2, .int 0, .ref ob3])), (ob1, .inl (G.2.2.1 0, 6, .inl (flF 1 6 0 (fun _ => 0)))), (ob2, .inl (G.2.2.1 0, 10, .inl (flF (-1) 10 0 (fun _ => 0)))), (ob3, .inl (G.2.2.1 1, 8, .inr (.inr (.inr (.inr (va_up (va_up (va_up (fun _ => none) 0 (some ob4)) 1 (some ob6)) 2 (some ob8))))))), (ob4, .inr (1, [.int 0, .int 0, .int 0, .int 0, .int 0, .int 0])), (ob6, .inr (1, [.int 0, .int 0, .int 0, .int 0, .int 0, .int 0])), (ob8, .inr (1, [.int 0, .int 0, .int 0, .int 0, .int 0, .int 0]))]) c_X1_init hC hI hl.1 7 rfl [0, 1, 2, 3, 4, 5, 6] rfl rfl (by decide) q31 q32 q3 q33 rfl ⟨by decide +kernel, by decide +kernel, by decide +kernel⟩ ⟨Nat.le_of_ble_eq_true rfl, Nat.le_of_ble_eq_true rfl⟩ (Nat.le_of_ble_eq_true rfl) d_X0_init_119 ⟨Nat.le_of_ble_eq_true rfl, Nat.le_of_ble_eq_true rfl⟩ (fun u11 H locs hI => ?_)
  have hI : WI s G A [(h, .inr (0, [.int 12, .int 3, .int 0, .int 0, .int 1, .ref ob1, .ref ob2, .int 0, .ref ob3])), (ob1, .inl (G.2.2.1 0, 6, .inl (flF 1 6 0 (fun _ => 0)))), (ob2, .inl (G.2.2.1 0, 10, .inl (flF (-1) 10 0 (fun _ => 0)))), (ob3, .inl (G.2.2.1 1, 8, .inr (.inr (.inr (.inr (va_up (va_up (va_up (fun _ => none) 0 (some ob4)) 1 (some ob6)) 2 (some ob8))))))), (ob4, .inr (1, [.int 0, .int 0, .int 0, .int 0, .int 0, .int 0])), (ob6, .inr (1, [.int 0, .int 0, .int 0, .int 0, .int 0, .int 0])), (ob8, .inr (1, [.int 0, .int 0, .int 0, .int 0, .int 0, .int 0])), (ob10, .inr (1, [.int 0, .int 0, .int 0, .int 0, .int 0, .int 0]))] H locs := hI
  refine n_astq (ci := 1) (t := 1) hC hI 3 7 rfl rfl rfl (by decide) (vp_in_nI (n := 3) (by decide) (by decide)) d_X0_init_122 (fun H locs hI => ?_)
  have hI : WI s G A [(h, .inr (0, [.int 12, .int 3, .int 0, .int 0, .int 1, .ref ob1, .ref ob2, .int 0, .ref ob3])), (ob1, .inl (G.2.2.1 0, 6, .inl (flF 1 6 0 (fun _ => 0)))), (ob2, .inl (G.2.2.1 0, 10, .inl (flF (-1) 10 0 (fun _ => 0)))), (ob3, .inl (G.2.2.1 1, 8, .inr (.inr (.inr (.inr (va_up (va_up (va_up (va_up (fun _ => none) 0 (some ob4)) 1 (some ob6)) 2 (some ob8)) 3 (some ob10))))))), (ob4, .inr (1, [.int 0, .int 0, .int 0, .int 0, .int 0, .int 0])), (ob6, .inr (1, [.int 0, .int 0, .int 0, .int 0, .int 0, .int 0])), (ob8, .inr (1, [.int 0, .int 0, .int 0, .int 0, .int 0, .int 0])), (ob10, .inr (1, [.int 0, .int 0, .int 0, .int 0, .int 0, .int 0]))] H locs := hI
  refine lv_iinc (v := 4) (lv' := [(1, .int 4), (0, .ref h)]) hC.1.1 hC.1.2.1 d_X0_init_123 hl (k := 0) rfl (by decide) (by decide) rfl (fun ls hl => ?_)
  refine lv_goto (tgt := 104) hC.1.1 hC.1.2.1 d_X0_init_126 (by decide) ?_
  refine lv_iload_n hC.1.1 hC.1.2.1 d_X0_init_104 rfl (lv_at hl 0 rfl) ?_
  refine lv_bipush (v := 8) hC.1.1 hC.1.2.1 d_X0_init_105 (by decide) ?_
  refine lv_icmp_ge (tgt := 129) hC.1.1 hC.1.2.1 d_X0_init_107 (by decide) (fun z => absurd z (by decide)) (fun _ => ?_)
  refine lv_aload_n hC.1.1 hC.1.2.1 d_X0_init_110 rfl (lv_at hl 1 rfl) ?_
  refine n_get (ci := 0) (k := 8) (v := .ref ob3) hC hI 0 rfl (by decide) (by decide) q86 rfl d_X0_init_111 ?_
  refine lv_iload_n hC.1.1 hC.1.2.1 d_X0_init_114 rfl (lv_at hl 0 rfl) ?_
  refine n_new (ci := 1) (fs := [.int 0, .int 0, .int 0, .int 0, .int 0, .int 0]) hC hI (by decide) q28 q30 q3 df_X1 (Nat.le_of_ble_eq_true rfl) (Nat.le_of_ble_eq_true rfl) d_X0_init_115 (fun ob12 H hI => ?_)
  have hI : WI s G A [(h, .inr (0, [.int 12, .int 3, .int 0, .int 0, .int 1, .ref ob1, .ref ob2, .int 0, .ref ob3])), (ob1, .inl (G.2.2.1 0, 6, .inl (flF 1 6 0 (fun _ => 0)))), (ob2, .inl (G.2.2.1 0, 10, .inl (flF (-1) 10 0 (fun _ => 0)))), (ob3, .inl (G.2.2.1 1, 8, .inr (.inr (.inr (.inr (va_up (va_up (va_up (va_up (fun _ => none) 0 (some ob4)) 1 (some ob6)) 2 (some ob8)) 3 (some ob10))))))), (ob4, .inr (1, [.int 0, .int 0, .int 0, .int 0, .int 0, .int 0])), (ob6, .inr (1, [.int 0, .int 0, .int 0, .int 0, .int 0, .int 0])), (ob8, .inr (1, [.int 0, .int 0, .int 0, .int 0, .int 0, .int 0])), (ob10, .inr (1, [.int 0, .int 0, .int 0, .int 0, .int 0, .int 0])), (ob12, .inr (1, [.int 0, .int 0, .int 0, .int 0, .int 0, .int 0]))] H locs := hI
  refine lv_dup hC.1.1 hC.1.2.1 d_X0_init_118 rfl ?_
  refine n_callN (wr := [(h, .inr (0, [.int 12, .int 3, .int 0, .int 0, .int 1, .ref ob1, .ref ob2, .int 0, .ref ob3])), (ob1, .inl (G.2.2.1 0, 6, .inl (flF 1 6 0 (fun _ => 0)))), (ob2, .inl (G.2.2.1 0, 10, .inl (flF (-1) 10 0 (fun _ => 0)))), (ob3, .inl (G.2.2.1 1, 8, .inr (.inr (.inr (.inr (va_up (va_up (va_up (va_up (fun _ => none) 0 (some ob4)) 1 (some ob6)) 2 (some ob8)) 3 (some ob10))))))), (ob4, .inr (1, [.int 0, .int 0, .int 0, .int 0, .int 0, .int 0])), (ob6, .inr (1, [.int 0, .int 0, .int 0, .int 0, .int 0, .int 0])), (ob8, .inr (1, [.int 0, .int 0, .int 0, .int 0, .int 0, .int 0])), (ob10, .inr (1, [.int 0, .int 0, .int 0, .int 0, .int 0, .int 0]))]) c_X1_init hC hI hl.1 8 rfl [0, 1, 2, 3, 4, 5, 6, 7] rfl rfl (by decide) q31 q32 q3 q33 rfl ⟨by decide +kernel, by decide +kernel, by decide +kernel⟩ ⟨Nat.le_of_ble_eq_true rfl, Nat.le_of_ble_eq_true rfl⟩ (Nat.le_of_ble_eq_true rfl) d_X0_init_119 ⟨Nat.le_of_ble_eq_true rfl, Nat.le_of_ble_eq_true rfl⟩ (fun u13 H locs hI => ?_)
  have hI : WI s G A [(h, .inr (0, [.int 12, .int 3, .int 0, .int 0, .int 1, .ref ob1, .ref ob2, .int 0, .ref ob3])), (ob1, .inl (G.2.2.1 0, 6, .inl (flF 1 6 0 (fun _ => 0)))), (ob2, .inl (G.2.2.1 0, 10, .inl (flF (-1) 10 0 (fun _ => 0)))), (ob3, .inl (G.2.2.1 1, 8, .inr (.inr (.inr (.inr (va_up (va_up (va_up (va_up (fun _ => none) 0 (some ob4)) 1 (some ob6)) 2 (some ob8)) 3 (some ob10))))))), (ob4, .inr (1, [.int 0, .int 0, .int 0, .int 0, .int 0, .int 0])), (ob6, .inr (1, [.int 0, .int 0, .int 0, .int 0, .int 0, .int 0])), (ob8, .inr (1, [.int 0, .int 0, .int 0, .int 0, .int 0, .int 0])), (ob10, .inr (1, [.int 0, .int 0, .int 0, .int 0, .int 0, .int 0])), (ob12, .inr (1, [.int 0, .int 0, .int 0, .int 0, .int 0, .int 0]))] H locs := hI
  refine n_astq (ci := 1) (t := 1) hC hI 3 8 rfl rfl rfl (by decide) (vp_in_nI (n := 4) (by decide) (by decide)) d_X0_init_122 (fun H locs hI => ?_)
  have hI : WI s G A [(h, .inr (0, [.int 12, .int 3, .int 0, .int 0, .int 1, .ref ob1, .ref ob2, .int 0, .ref ob3])), (ob1, .inl (G.2.2.1 0, 6, .inl (flF 1 6 0 (fun _ => 0)))), (ob2, .inl (G.2.2.1 0, 10, .inl (flF (-1) 10 0 (fun _ => 0)))), (ob3, .inl (G.2.2.1 1, 8, .inr (.inr (.inr (.inr (va_up (va_up (va_up (va_up (va_up (fun _ => none) 0 (some ob4)) 1 (some ob6)) 2 (some ob8)) 3 (some ob10)) 4 (some ob12))))))), (ob4, .inr (1, [.int 0, .int 0, .int 0, .int 0, .int 0, .int 0])), (ob6, .inr (1, [.int 0, .int 0, .int 0, .int 0, .int 0, .int 0])), (ob8, .inr (1, [.int 0, .int 0, .int 0, .int 0, .int 0, .int 0])), (ob10, .inr (1, [.int 0, .int 0, .int 0, .int 0, .int 0, .int 0])), (ob12, .inr (1, [.int 0, .int 0, .int 0, .int 0, .int 0, .int 0]))] H locs := hI
  refine lv_iinc (v := 5) (lv' := [(1, .int 5), (0, .ref h)]) hC.1.1 hC.1.2.1 d_X0_init_123 hl (k := 0) rfl (by decide) (by decide) rfl (fun ls hl => ?_)
  refine lv_goto (tgt := 104) hC.1.1 hC.1.2.1 d_X0_init_126 (by decide) ?_
  refine lv_iload_n hC.1.1 hC.1.2.1 d_X0_init_104 rfl (lv_at hl 0 rfl) ?_
  refine lv_bipush (v := 8) hC.1.1 hC.1.2.1 d_X0_init_105 (by decide) ?_
  refine lv_icmp_ge (tgt := 129) hC.1.1 hC.1.2.1 d_X0_init_107 (by decide) (fun z => absurd z (by decide)) (fun _ => ?_)
  refine lv_aload_n hC.1.1 hC.1.2.1 d_X0_init_110 rfl (lv_at hl 1 rfl) ?_
  refine n_get (ci := 0) (k := 8) (v := .ref ob3) hC hI 0 rfl (by decide) (by decide) q86 rfl d_X0_init_111 ?_
  refine lv_iload_n hC.1.1 hC.1.2.1 d_X0_init_114 rfl (lv_at hl 0 rfl) ?_
  refine n_new (ci := 1) (fs := [.int 0, .int 0, .int 0, .int 0, .int 0, .int 0]) hC hI (by decide) q28 q30 q3 df_X1 (Nat.le_of_ble_eq_true rfl) (Nat.le_of_ble_eq_true rfl) d_X0_init_115 (fun ob14 H hI => ?_)
  have hI : WI s G A [(h, .inr (0, [.int 12, .int 3, .int 0, .int 0, .int 1, .ref ob1, .ref ob2, .int 0, .ref ob3])), (ob1, .inl (G.2.2.1 0, 6, .inl (flF 1 6 0 (fun _ => 0)))), (ob2, .inl (G.2.2.1 0, 10, .inl (flF (-1) 10 0 (fun _ => 0)))), (ob3, .inl (G.2.2.1 1, 8, .inr (.inr (.inr (.inr (va_up (va_up (va_up (va_up (va_up (fun _ => none) 0 (some ob4)) 1 (some ob6)) 2 (some ob8)) 3 (some ob10)) 4 (some ob12))))))), (ob4, .inr (1, [.int 0, .int 0, .int 0, .int 0, .int 0, .int 0])), (ob6, .inr (1, [.int 0, .int 0, .int 0, .int 0, .int 0, .int 0])), (ob8, .inr (1, [.int 0, .int 0, .int 0, .int 0, .int 0, .int 0])), (ob10, .inr (1, [.int 0, .int 0, .int 0, .int 0, .int 0, .int 0])), (ob12, .inr (1, [.int 0, .int 0, .int 0, .int 0, .int 0, .int 0])), (ob14, .inr (1, [.int 0, .int 0, .int 0, .int 0, .int 0, .int 0]))] H locs := hI
  refine lv_dup hC.1.1 hC.1.2.1 d_X0_init_118 rfl ?_
  refine n_callN (wr := [(h, .inr (0, [.int 12, .int 3, .int 0, .int 0, .int 1, .ref ob1, .ref ob2, .int 0, .ref ob3])), (ob1, .inl (G.2.2.1 0, 6, .inl (flF 1 6 0 (fun _ => 0)))), (ob2, .inl (G.2.2.1 0, 10, .inl (flF (-1) 10 0 (fun _ => 0)))), (ob3, .inl (G.2.2.1 1, 8, .inr (.inr (.inr (.inr (va_up (va_up (va_up (va_up (va_up (fun _ => none) 0 (some ob4)) 1 (some ob6)) 2 (some ob8)) 3 (some ob10)) 4 (some ob12))))))), (ob4, .inr (1, [.int 0, .int 0, .int 0, .int 0, .int 0, .int 0])), (ob6, .inr (1, [.int 0, .int 0, .int 0, .int 0, .int 0, .int 0])), (ob8, .inr (1, [.int 0, .int 0, .int 0, .int 0, .int 0, .int 0])), (ob10, .inr (1, [.int 0, .int 0, .int 0, .int 0, .int 0, .int 0])), (ob12, .inr (1, [.int 0, .int 0, .int 0, .int 0, .int 0, .int 0]))]) c_X1_init hC hI hl.1 9 rfl [0, 1, 2, 3, 4, 5, 6, 7, 8] rfl rfl (by decide) q31 q32 q3 q33 rfl ⟨by decide +kernel, by decide +kernel, by decide +kernel⟩ ⟨Nat.le_of_ble_eq_true rfl, Nat.le_of_ble_eq_true rfl⟩ (Nat.le_of_ble_eq_true rfl) d_X0_init_119 ⟨Nat.le_of_ble_eq_true rfl, Nat.le_of_ble_eq_true rfl⟩ (fun u15 H locs hI => ?_)
  have hI : WI s G A [(h, .inr (0, [.int 12, .int 3, .int 0, .int 0, .int 1, .ref ob1, .ref ob2, .int 0, .ref ob3])), (ob1, .inl (G.2.2.1 0, 6, .inl (flF 1 6 0 (fun _ => 0)))), (ob2, .inl (G.2.2.1 0, 10, .inl (flF (-1) 10 0 (fun _ => 0)))), (ob3, .inl (G.2.2.1 1, 8, .inr (.inr (.inr (.inr (va_up (va_up (va_up (va_up (va_up (fun _ => none) 0 (some ob4)) 1 (some ob6)) 2 (some ob8)) 3 (some ob10)) 4 (some ob12))))))), (ob4, .inr (1, [.int 0, .int 0, .int 0, .int 0, .int 0, .int 0])), (ob6, .inr (1, [.int 0, .int 0, .int 0, .int 0, .int 0, .int 0])), (ob8, .inr (1, [.int 0, .int 0, .int 0, .int 0, .int 0, .int 0])), (ob10, .inr (1, [.int 0, .int 0, .int 0, .int 0, .int 0, .int 0])), (ob12, .inr (1, [.int 0, .int 0, .int 0, .int 0, .int 0, .int 0])), (ob14, .inr (1, [.int 0, .int 0, .int 0, .int 0, .int 0, .int 0]))] H locs := hI
  refine n_astq (ci := 1) (t := 1) hC hI 3 9 rfl rfl rfl (by decide) (vp_in_nI (n := 5) (by decide) (by decide)) d_X0_init_122 (fun H locs hI => ?_)
  have hI : WI s G A [(h, .inr (0, [.int 12, .int 3, .int 0, .int 0, .int 1, .ref ob1, .ref ob2, .int 0, .ref ob3])), (ob1, .inl (G.2.2.1 0, 6, .inl (flF 1 6 0 (fun _ => 0)))), (ob2, .inl (G.2.2.1 0, 10, .inl (flF (-1) 10 0 (fun _ => 0)))), (ob3, .inl (G.2.2.1 1, 8, .inr (.inr (.inr (.inr (va_up (va_up (va_up (va_up (va_up (va_up (fun _ => none) 0 (some ob4)) 1 (some ob6)) 2 (some ob8)) 3 (some ob10)) 4 (some ob12)) 5 (some ob14))))))), (ob4, .inr (1, [.int 0, .int 0, .int 0, .int 0, .int 0, .int 0])), (ob6, .inr (1, [.int 0, .int 0, .int 0, .int 0, .int 0, .int 0])), (ob8, .inr (1, [.int 0, .int 0, .int 0, .int 0, .int 0, .int 0])), (ob10, .inr (1, [.int 0, .int 0, .int 0, .int 0, .int 0, .int 0])), (ob12, .inr (1, [.int 0, .int 0, .int 0, .int 0, .int 0, .int 0])), (ob14, .inr (1, [.int 0, .int 0, .int 0, .int 0, .int 0, .int 0]))] H locs := hI
  refine lv_iinc (v := 6) (lv' := [(1, .int 6), (0, .ref h)]) hC.1.1 hC.1.2.1 d_X0_init_123 hl (k := 0) rfl (by decide) (by decide) rfl (fun ls hl => ?_)
  refine lv_goto (tgt := 104) hC.1.1 hC.1.2.1 d_X0_init_126 (by decide) ?_
  refine lv_iload_n hC.1.1 hC.1.2.1 d_X0_init_104 rfl (lv_at hl 0 rfl) ?_
  refine lv_bipush (v := 8) hC.1.1 hC.1.2.1 d_X0_init_105 (by decide) ?_
  refine lv_icmp_ge (tgt := 129) hC.1.1 hC.1.2.1 d_X0_init_107 (by decide) (fun z => absurd z (by decide)) (fun _ => ?_)
  refine lv_aload_n hC.1.1 hC.1.2.1 d_X0_init_110 rfl (lv_at hl 1 rfl) ?_
  refine n_get (ci := 0) (k := 8) (v := .ref ob3) hC hI 0 rfl (by decide) (by decide) q86 rfl d_X0_init_111 ?_
  refine lv_iload_n hC.1.1 hC.1.2.1 d_X0_init_114 rfl (lv_at hl 0 rfl) ?_
  refine n_new (ci := 1) (fs := [.int 0, .int 0, .int 0, .int 0, .int 0, .int 0]) hC hI (by decide) q28 q30 q3 df_X1 (Nat.le_of_ble_eq_true rfl) (Nat.le_of_ble_eq_true rfl) d_X0_init_115 (fun ob16 H hI => ?_)
  have hI : WI s G A [(h, .inr (0, [.int 12, .int 3, .int 0, .int 0, .int 1, .ref ob1, .ref ob2, .int 0, .ref ob3])), (ob1, .inl (G.2.2.1 0, 6, .inl (flF 1 6 0 (fun _ => 0)))), (ob2, .inl (G.2.2.1 0, 10, .inl (flF (-1) 10 0 (fun _ => 0)))), (ob3, .inl (G.2.2.1 1, 8, .inr (.inr (.inr (.inr (va_up (va_up (va_up (va_up (va_up (va_up (fun _ => none) 0 (some ob4)) 1 (some ob6)) 2 (some ob8)) 3 (some ob10)) 4 (some ob12)) 5 (some ob14))))))), (ob4, .inr (1, [.int 0, .int 0, .int 0, .int 0, .int 0, .int 0])), (ob6, .inr (1, [.int 0, .int 0, .int 0, .int 0, .int 0, .int 0])), (ob8, .inr (1, [.int 0, .int 0, .int 0, .int 0, .int 0, .int 0])), (ob10, .inr (1, [.int 0, .int 0, .int 0, .int 0, .int 0, .int 0])), (ob12, .inr (1, [.int 0, .int 0, .int 0, .int 0, .int 0, .int 0])), (ob14, .inr (1, [.int 0, .int 0, .int 0, .int 0, .int 0, .int 0])), (ob16, .inr (1, [.int 0, .int 0, .int 0, .int 0, .int 0, .int 0]))] H locs := hI
  refine lv_dup hC.1.1 hC.1.2.1 d_X0_init_118 rfl ?_
  refine n_callN (wr := [(h, .inr (0, [.int 12, .int 3, .int 0, .int 0, .int 1, .ref ob1, .ref ob2, .int 0, .ref ob3])), (ob1, .inl (G.2.2.1 0, 6, .inl (flF 1 6 0 (fun _ => 0)))), (ob2, .inl (G.2.2.1 0, 10, .inl (flF (-1) 10 0 (fun _ => 0)))), (ob3, .inl (G.2.2.1 1, 8, .inr (.inr (.inr (.inr (va_up (va_up (va_up (va_up (va_up (va_up (fun _ => none) 0 (some ob4)) 1 (some ob6)) 2 (some ob8)) 3 (some ob10)) 4 (some ob12)) 5 (some ob14))))))), (ob4, .inr (1, [.int 0, .int 0, .int 0, .int 0, .int 0, .int 0])), (ob6, .inr (1, [.int 0, .int 0, .int 0, .int 0, .int 0, .int 0])), (ob8, .inr (1, [.int 0, .int 0, .int 0, .int 0, .int 0, .int 0])), (ob10, .inr (1, [.int 0, .int 0, .int 0, .int 0, .int 0, .int 0])), (ob12, .inr (1, [.int 0, .int 0, .int 0, .int 0, .int 0, .int 0])), (ob14, .inr (1, [.int 0, .int 0, .int 0, .int 0, .int 0, .int 0]))]) c_X1_init hC hI hl.1 10 rfl [0, 1, 2, 3, 4, 5, 6, 7, 8, 9] rfl rfl (by decide) q31 q32 q3 q33 rfl ⟨by decide +kernel, by decide +kernel, by decide +kernel⟩ ⟨Nat.le_of_ble_eq_true rfl, Nat.le_of_ble_eq_true rfl⟩ (Nat.le_of_ble_eq_true rfl) d_X0_init_119 ⟨Nat.le_of_ble_eq_true rfl, Nat.le_of_ble_eq_true rfl⟩ (fun u17 H locs hI => ?_)
  have hI : WI s G A [(h, .inr (0, [.int 12, .int 3, .int 0, .int 0, .int 1, .ref ob1, .ref ob2, .int 0, .ref ob3])), (ob1, .inl (G.2.2.1 0, 6, .inl (flF 1 6 0 (fun _ => 0)))), (ob2, .inl (G.2.2.1 0, 10, .inl (flF (-1) 10 0 (fun _ => 0)))), (ob3, .inl (G.2.2.1 1, 8, .inr (.inr (.inr (.inr (va_up (va_up (va_up (va_up (va_up (va_up (fun _ => none) 0 (some ob4)) 1 (some ob6)) 2 (some ob8)) 3 (some ob10)) 4 (some ob12)) 5 (some ob14))))))), (ob4, .inr (1, [.int 0, .int 0, .int 0, .int 0, .int 0, .int 0])), (ob6, .inr (1, [.int 0, .int 0, .int 0, .int 0, .int 0, .int 0])), (ob8, .inr (1, [.int 0, .int 0, .int 0, .int 0, .int 0, .int 0])), (ob10, .inr (1, [.int 0, .int 0, .int 0, .int 0, .int 0, .int 0])), (ob12, .inr (1, [.int 0, .int 0, .int 0, .int 0, .int 0, .int 0])), (ob14, .inr (1, [.int 0, .int 0, .int 0, .int 0, .int 0, .int 0])), (ob16, .inr (1, [.int 0, .int 0, .int 0, .int 0, .int 0, .int 0]))] H locs := hI
  refine n_astq (ci := 1) (t := 1) hC hI 3 10 rfl rfl rfl (by decide) (vp_in_nI (n := 6) (by decide) (by decide)) d_X0_init_122 (fun H locs hI => ?_)
  have hI : WI s G A [(h, .inr (0, [.int 12, .int 3, .int 0, .int 0, .int 1, .ref ob1, .ref ob2, .int 0, .ref ob3])), (ob1, .inl (G.2.2.1 0, 6, .inl (flF 1 6 0 (fun _ => 0)))), (ob2, .inl (G.2.2.1 0, 10, .inl (flF (-1) 10 0 (fun _ => 0)))), (ob3, .inl (G.2.2.1 1, 8, .inr (.inr (.inr (.inr (va_up (va_up (va_up (va_up (va_up (va_up (va_up (fun _ => none) 0 (some ob4)) 1 (some ob6)) 2 (some ob8)) 3 (some ob10)) 4 (some ob12)) 5 (some ob14)) 6 (some ob16))))))), (ob4, .inr (1, [.int 0, .int 0, .int 0, .int 0, .int 0, .int 0])), (ob6, .inr (1, [.int 0, .int 0, .int 0, .int 0, .int 0, .int 0])), (ob8, .inr (1, [.int 0, .int 0, .int 0, .int 0, .int 0, .int 0])), (ob10, .inr (1, [.int 0, .int 0, .int 0, .int 0, .int 0, .int 0])), (ob12, .inr (1, [.int 0, .int 0, .int 0, .int 0, .int 0, .int 0])), (ob14, .inr (1, [.int 0, .int 0, .int 0, .int 0, .int 0, .int 0])), (ob16, .inr (1, [.int 0, .int 0, .int 0, .int 0, .int 0, .int 0]))] H locs := hI
  refine lv_iinc (v := 7) (lv' := [(1, .int 7), (0, .ref h)]) hC.1.1 hC.1.2.1 d_X0_init_123 hl (k := 0) rfl (by decide) (by decide) rfl (fun ls hl => ?_)
  refine lv_goto (tgt := 104) hC.1.1 hC.1.2.1 d_X0_init_126 (by decide) ?_
  refine lv_iload_n hC.1.1 hC.1.2.1 d_X0_init_104 rfl (lv_at hl 0 rfl) ?_
  refine lv_bipush (v := 8) hC.1.1 hC.1.2.1 d_X0_init_105 (by decide) ?_
  refine lv_icmp_ge (tgt := 129) hC.1.1 hC.1.2.1 d_X0_init_107 (by decide) (fun z => absurd z (by decide)) (fun _ => ?_)
  refine lv_aload_n hC.1.1 hC.1.2.1 d_X0_init_110 rfl (lv_at hl 1 rfl) ?_
  refine n_get (ci := 0) (k := 8) (v := .ref ob3) hC hI 0 rfl (by decide) (by decide) q86 rfl d_X0_init_111 ?_
  refine lv_iload_n hC.1.1 hC.1.2.1 d_X0_init_114 rfl (lv_at hl 0 rfl) ?_
  refine n_new (ci := 1) (fs := [.int 0, .int 0, .int 0, .int 0, .int 0, .int 0]) hC hI (by decide) q28 q30 q3 df_X1 (Nat.le_of_ble_eq_true rfl) (Nat.le_of_ble_eq_true rfl) d_X0_init_115 (fun ob18 H hI => ?_)
  have hI : WI s G A [(h, .inr (0, [.int 12, .int 3, .int 0, .int 0, .int 1, .ref ob1, .ref ob2, .int 0, .ref ob3])), (ob1, .inl (G.2.2.1 0, 6, .inl (flF 1 6 0 (fun _ => 0)))), (ob2, .inl (G.2.2.1 0, 10, .inl (flF (-1) 10 0 (fun _ => 0)))), (ob3, .inl (G.2.2.1 1, 8, .inr (.inr (.inr (.inr (va_up (va_up (va_up (va_up (va_up (va_up (va_up (fun _ => none) 0 (some ob4)) 1 (some ob6)) 2 (some ob8)) 3 (some ob10)) 4 (some ob12)) 5 (some ob14)) 6 (some ob16))))))), (ob4, .inr (1, [.int 0, .int 0, .int 0, .int 0, .int 0, .int 0])), (ob6, .inr (1, [.int 0, .int 0, .int 0, .int 0, .int 0, .int 0])), (ob8, .inr (1, [.int 0, .int 0, .int 0, .int 0, .int 0, .int 0])), (ob10, .inr (1, [.int 0, .int 0, .int 0, .int 0, .int 0, .int 0])), (ob12, .inr (1, [.int 0, .int 0, .int 0, .int 0, .int 0, .int 0])), (ob14, .inr (1, [.int 0, .int 0, .int 0, .int 0, .int 0, .int 0])), (ob16, .inr (1, [.int 0, .int 0, .int 0, .int 0, .int 0, .int 0])), (ob18, .inr (1, [.int 0, .int 0, .int 0, .int 0, .int 0, .int 0]))] H locs := hI
  refine lv_dup hC.1.1 hC.1.2.1 d_X0_init_118 rfl ?_
  refine n_callN (wr := [(h, .inr (0, [.int 12, .int 3, .int 0, .int 0, .int 1, .ref ob1, .ref ob2, .int 0, .ref ob3])), (ob1, .inl (G.2.2.1 0, 6, .inl (flF 1 6 0 (fun _ => 0)))), (ob2, .inl (G.2.2.1 0, 10, .inl (flF (-1) 10 0 (fun _ => 0)))), (ob3, .inl (G.2.2.1 1, 8, .inr (.inr (.inr (.inr (va_up (va_up (va_up (va_up (va_up (va_up (va_up (fun _ => none) 0 (some ob4)) 1 (some ob6)) 2 (some ob8)) 3 (some ob10)) 4 (some ob12)) 5 (some ob14)) 6 (some ob16))))))), (ob4, .inr (1, [.int 0, .int 0, .int 0, .int 0, .int 0, .int 0])), (ob6, .inr (1, [.int 0, .int 0, .int 0, .int 0, .int 0, .int 0])), (ob8, .inr (1, [.int 0, .int 0, .int 0, .int 0, .int 0, .int 0])), (ob10, .inr (1, [.int 0, .int 0, .int 0, .int 0, .int 0, .int 0])), (ob12, .inr (1, [.int 0, .int 0, .int 0, .int 0, .int 0, .int 0])), (ob14, .inr (1, [.int 0, .int 0, .int 0, .int 0, .int 0, .int 0])), (ob16, .inr (1, [.int 0, .int 0, .int 0, .int 0, .int 0, .int 0]))]) c_X1_init hC hI hl.1 11 rfl [0, 1, 2, 3, 4, 5, 6, 7, 8, 9, 10] rfl rfl (by decide) q31 q32 q3 q33 rfl ⟨by decide +kernel, by decide +kernel, by decide +kernel⟩ ⟨Nat.le_of_ble_eq_true rfl, Nat.le_of_ble_eq_true rfl⟩ (Nat.le_of_ble_eq_true rfl) d_X0_init_119 ⟨Nat.le_of_ble_eq_true rfl, Nat.le_of_ble_eq_true rfl⟩ (fun u19 H locs hI => ?_)
  have hI : WI s G A [(h, .inr (0, [.int 12, .int 3, .int 0, .int 0, .int 1, .ref ob1, .ref ob2, .int 0, .ref ob3])), (ob1, .inl (G.2.2.1 0, 6, .inl (flF 1 6 0 (fun _ => 0)))), (ob2, .inl (G.2.2.1 0, 10, .inl (flF (-1) 10 0 (fun _ => 0)))), (ob3, .inl (G.2.2.1 1, 8, .inr (.inr (.inr (.inr (va_up (va_up (va_up (va_up (va_up (va_up (va_up (fun _ => none) 0 (some ob4)) 1 (some ob6)) 2 (some ob8)) 3 (some ob10)) 4 (some ob12)) 5 (some ob14)) 6 (some ob16))))))), (ob4, .inr (1, [.int 0, .int 0, .int 0, .int 0, .int 0, .int 0])), (ob6, .inr (1, [.int 0, .int 0, .int 0, .int 0, .int 0, .int 0])), (ob8, .inr (1, [.int 0, .int 0, .int 0, .int 0, .int 0, .int 0])), (ob10, .inr (1, [.int 0, .int 0, .int 0, .int 0, .int 0, .int 0])), (ob12, .inr (1, [.int 0, .int 0, .int 0, .int 0, .int 0, .int 0])), (ob14, .inr (1, [.int 0, .int 0, .int 0, .int 0, .int 0, .int 0])), (ob16, .inr (1, [.int 0, .int 0, .int 0, .int 0, .int 0, .int 0])), (ob18, .inr (1, [.int 0, .int 0, .int 0, .int 0, .int 0, .int 0]))] H locs := hI
  refine n_astq (ci := 1) (t := 1) hC hI 3 11 rfl rfl rfl (by decide) (vp_in_nI (n := 7) (by decide) (by decide)) d_X0_init_122 (fun H locs hI => ?_)
  have hI : WI s G A [(h, .inr (0, [.int 12, .int 3, .int 0, .int 0, .int 1, .ref ob1, .ref ob2, .int 0, .ref ob3])), (ob1, .inl (G.2.2.1 0, 6, .inl (flF 1 6 0 (fun _ => 0)))), (ob2, .inl (G.2.2.1 0, 10, .inl (flF (-1) 10 0 (fun _ => 0)))), (ob3, .inl (G.2.2.1 1, 8, .inr (.inr (.inr (.inr (va_up (va_up (va_up (va_up (va_up (va_up (va_up (va_up (fun _ => none) 0 (some ob4)) 1 (some ob6)) 2 (some ob8)) 3 (some ob10)) 4 (some ob12)) 5 (some ob14)) 6 (some ob16)) 7 (some ob18))))))), (ob4, .inr (1, [.int 0, .int 0, .int 0, .int 0, .int 0, .int 0])), (ob6, .inr (1, [.int 0, .int 0, .int 0, .int 0, .int 0, .int 0])), (ob8, .inr (1, [.int 0, .int 0, .int 0, .int 0, .int 0, .int 0])), (ob10, .inr (1, [.int 0, .int 0, .int 0, .int 0, .int 0, .int 0])), (ob12, .inr (1, [.int 0, .int 0, .int 0, .int 0, .int 0, .int 0])), (ob14, .inr (1, [.int 0, .int 0, .int 0, .int 0, .int 0, .int 0])), (ob16, .inr (1, [.int 0, .int 0, .int 0, .int 0, .int 0, .int 0])), (ob18, .inr (1, [.int 0, .int 0, .int 0, .int 0, .int 0, .int 0]))] H locs := hI
  refine lv_iinc (v := 8) (lv' := [(1, .int 8), (0, .ref h)]) hC.1.1 hC.1.2.1 d_X0_init_123 hl (k := 0) rfl (by decide) (by decide) rfl (fun ls hl => ?_)
  refine lv_goto (tgt := 104) hC.1.1 hC.1.2.1 d_X0_init_126 (by decide) ?_
  refine lv_iload_n hC.1.1 hC.1.2.1 d_X0_init_104 rfl (lv_at hl 0 rfl) ?_
  refine lv_bipush (v := 8) hC.1.1 hC.1.2.1 d_X0_init_105 (by decide) ?_
  refine lv_icmp_ge (tgt := 129) hC.1.1 hC.1.2.1 d_X0_init_107 (by decide) (fun _ => ?_) (fun z => absurd (by decide) z)
  have hP := P_row (q0 := 3) (fun j => some ((fun k => [ob1, ob2, ob3, ob4, ob6, ob8, ob10, ob12, ob14, ob16, ob18].getD k 0) (3 + j))) hI.1 hI.2.1 rfl (fun j hj => by rcases (show j = 0 ∨ j = 1 ∨ j = 2 ∨ j = 3 ∨ j = 4 ∨ j = 5 ∨ j = 6 ∨ j = 7 by omega) with rfl | rfl | rfl | rfl | rfl | rfl | rfl | rfl <;> rfl)
  have hD := hI.2.1.set (p := 3) (e := .inl (G.2.2.1 1, 8, .inr (.inr (.inr (.inr (fun j => some ((fun k => [ob1, ob2, ob3, ob4, ob6, ob8, ob10, ob12, ob14, ob16, ob18].getD k 0) (3 + j)))))))) rfl
  exact n_vret (B := B_X0_init G h) hC hI.2.2 hr hk d_X0_init_129 (fun k => [ob1, ob2, ob3, ob4, ob6, ob8, ob10, ob12, ob14, ob16, ob18].getD k 0) (hP.sub [0, 1, 2, 3, 4, 5, 6, 7, 8, 9, 10, 11] rfl) (hD.sub [0, 1, 2, 3, 4, 5, 6, 7, 8, 9, 10, 11] (by decide) rfl)
