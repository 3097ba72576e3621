theorem df_X0 : ∀ j, j < Nf 0 → defaultValue (tyc 0 j) = vp_V [.int 0, .int 0, .int 0, .int 0, .int 0, .null, .null, .int 0, .null] j := by decide +kernel
theorem df_X1 : ∀ j, j < Nf 1 → defaultValue (tyc 1 j) = vp_V [.int 0, .int 0, .int 0, .int 0, .int 0, .int 0] j := by decide +kernel
theorem df_X2 : ∀ j, j < Nf 2 → defaultValue (tyc 2 j) = vp_V [.int 0, .int 0, .null] j := by decide +kernel
theorem df_X3 : ∀ j, j < Nf 3 → defaultValue (tyc 3 j) = vp_V [.null, .int 0, .int 0, .int 0, .int 0, .int 0] j := by decide +kernel
theorem df_X4 : ∀ j, j < Nf 4 → defaultValue (tyc 4 j) = vp_V [.null, .null, .null, .int 0, .null, .null, .null] j := by decide +kernel
theorem df_X5 : ∀ j, j < Nf 5 → defaultValue (tyc 5 j) = vp_V [.null, .null, .null, .int 0, .null, .int 0, .int 0, .null, .int 0, .int 0, .int 0, .int 0, .int 0, .int 0, .null, .null, .int 0, .int 0, .null, .null, .null, .null] j := by decide +kernel
theorem d_X1_init_0 : decode cX1_init 0 = .ok (.aload_n 0, 1) := by decide +kernel
theorem d_X1_init_1 : decode cX1_init 1 = .ok (.invokespecial 5, 3) := by decide +kernel
theorem d_X1_init_4 : decode cX1_init 4 = .ok (.return_, 1) := by decide +kernel
def B_X1_init (G : Gm) (h : Nat) (u : Nat → Nat) : va_W := [(h, .inr (1, [.int 0, .int 0, .int 0, .int 0, .int 0, .int 0]))]
set_option maxHeartbeats 4000000 in
set_option maxRecDepth 100000 in
theorem c_X1_init {l : Launch} {G : Gm} : CTI l G yX1_init (wsOf yX1_init cX1_init 1 none) 2 1 [.int 0, .int 0, .int 0, .int 0, .int 0, .int 0] (B_X1_init G) 0 0 := by
  refine met_I (by decide +kernel) rfl rfl (by decide) ?_
  intro h p e s m args below meth c A ls hC hin hr hk hI hl
  generalize s.heap = H at hI ⊢
  generalize ([] : List Loc) = locs at hI ⊢
  refine lv_aload_n hC.1.1 hC.1.2.1 d_X1_init_0 rfl (lv_at hl 0 rfl) ?_
  refine n_obj hC hl.1 q34 d_X1_init_1 (Nat.le_of_ble_eq_true rfl) (Nat.le_of_ble_eq_true rfl) ?_
  exact n_vret (B := B_X1_init G h) hC hI.2.2 hr hk d_X1_init_4 (fun _ => 0) (hI.1.sub [0] rfl) (hI.2.1.sub [0] (by decide) rfl)
theorem d_X2_init_0 : decode cX2_init 0 = .ok (.aload_n 0, 1) := by decide +kernel
theorem d_X2_init_1 : decode cX2_init 1 = .ok (.invokespecial 3, 3) := by decide +kernel
theorem d_X2_init_4 : decode cX2_init 4 = .ok (.aload_n 0, 1) := by decide +kernel
theorem d_X2_init_5 : decode cX2_init 5 = .ok (.iconst 0, 1) := by decide +kernel
theorem d_X2_init_6 : decode cX2_init 6 = .ok (.putfield 9, 3) := by decide +kernel
theorem d_X2_init_9 : decode cX2_init 9 = .ok (.aload_n 0, 1) := by decide +kernel
theorem d_X2_init_10 : decode cX2_init 10 = .ok (.iconst 0, 1) := by decide +kernel
theorem d_X2_init_11 : decode cX2_init 11 = .ok (.putfield 15, 3) := by decide +kernel
theorem d_X2_init_14 : decode cX2_init 14 = .ok (.aload_n 0, 1) := by decide +kernel
theorem d_X2_init_15 : decode cX2_init 15 = .ok (.bipush 40, 2) := by decide +kernel
theorem d_X2_init_17 : decode cX2_init 17 = .ok (.newarray .int, 2) := by decide +kernel
theorem d_X2_init_19 : decode cX2_init 19 = .ok (.putfield 18, 3) := by decide +kernel
theorem d_X2_init_22 : decode cX2_init 22 = .ok (.return_, 1) := by decide +kernel
def B_X2_init (G : Gm) (h : Nat) (u : Nat → Nat) : va_W := [(h, .inr (2, [.int 0, .int 0, .ref (u 0)])), ((u 0), .inl (G.2.2.1 0, 40, .inl (fun _ => 0)))]
set_option maxHeartbeats 4000000 in
set_option maxRecDepth 100000 in
theorem c_X2_init {l : Launch} {G : Gm} : CTI l G yX2_init (wsOf yX2_init cX2_init 1 none) 2 2 [.int 0, .int 0, .null] (B_X2_init G) 1 40 := by
  refine met_I (by decide +kernel) rfl rfl (by decide) ?_
  intro h p e s m args below meth c A ls hC hin hr hk hI hl
  generalize s.heap = H at hI ⊢
  generalize ([] : List Loc) = locs at hI ⊢
  refine lv_aload_n hC.1.1 hC.1.2.1 d_X2_init_0 rfl (lv_at hl 0 rfl) ?_
  refine n_obj hC hl.1 q140 d_X2_init_1 (Nat.le_of_ble_eq_true rfl) (Nat.le_of_ble_eq_true rfl) ?_
  refine lv_aload_n hC.1.1 hC.1.2.1 d_X2_init_4 rfl (lv_at hl 0 rfl) ?_
  refine lv_iconst (v := 0) hC.1.1 hC.1.2.1 d_X2_init_5 (by decide) ?_
  refine n_put (ci := 2) (k := 0) hC hI 0 rfl (by decide) (by decide) q141 rfl rfl rfl (Nat.le_of_ble_eq_true rfl) d_X2_init_6 (fun H locs hI => ?_)
  have hI : WI s G A [(h, .inr (2, [.int 0, .int 0, .null]))] H locs := hI
  refine lv_aload_n hC.1.1 hC.1.2.1 d_X2_init_9 rfl (lv_at hl 0 rfl) ?_
  refine lv_iconst (v := 0) hC.1.1 hC.1.2.1 d_X2_init_10 (by decide) ?_
  refine n_put (ci := 2) (k := 1) hC hI 0 rfl (by decide) (by decide) q143 rfl rfl rfl (Nat.le_of_ble_eq_true rfl) d_X2_init_11 (fun H locs hI => ?_)
  have hI : WI s G A [(h, .inr (2, [.int 0, .int 0, .null]))] H locs := hI
  refine lv_aload_n hC.1.1 hC.1.2.1 d_X2_init_14 rfl (lv_at hl 0 rfl) ?_
  refine lv_bipush (v := 40) hC.1.1 hC.1.2.1 d_X2_init_15 (by decide) ?_
  refine n_newa (N := 40) hC hI (by decide) (by decide) (Nat.le_of_ble_eq_true rfl) (Nat.le_of_ble_eq_true rfl) (Nat.le_of_ble_eq_true rfl) d_X2_init_17 (fun ob1 H hI => ?_)
  have hI : WI s G A [(h, .inr (2, [.int 0, .int 0, .null])), (ob1, .inl (G.2.2.1 0, 40, .inl (fun _ => 0)))] H locs := hI
  refine n_putF (ci := 2) (k := 2) hC hI hin 0 rfl (by decide) (by decide) q145 rfl rfl rfl rfl (Nat.le_of_ble_eq_true rfl) d_X2_init_19 (fun H locs hI => ?_)
  have hI : WI s G A [(h, .inr (2, [.int 0, .int 0, .ref ob1])), (ob1, .inl (G.2.2.1 0, 40, .inl (fun _ => 0)))] H locs := hI
  exact n_vret (B := B_X2_init G h) hC hI.2.2 hr hk d_X2_init_22 (fun _ => ob1) (hI.1.sub [0, 1] rfl) (hI.2.1.sub [0, 1] (by decide) rfl)
theorem d_X3_init_0 : decode cX3_init 0 = .ok (.aload_n 0, 1) := by decide +kernel
theorem d_X3_init_1 : decode cX3_init 1 = .ok (.invokespecial 3, 3) := by decide +kernel
theorem d_X3_init_4 : decode cX3_init 4 = .ok (.aload_n 0, 1) := by decide +kernel
theorem d_X3_init_5 : decode cX3_init 5 = .ok (.bipush 120, 2) := by decide +kernel
theorem d_X3_init_7 : decode cX3_init 7 = .ok (.newarray .int, 2) := by decide +kernel
theorem d_X3_init_9 : decode cX3_init 9 = .ok (.putfield 9, 3) := by decide +kernel
theorem d_X3_init_12 : decode cX3_init 12 = .ok (.aload_n 0, 1) := by decide +kernel
theorem d_X3_init_13 : decode cX3_init 13 = .ok (.iconst 0, 1) := by decide +kernel
theorem d_X3_init_14 : decode cX3_init 14 = .ok (.putfield 15, 3) := by decide +kernel
theorem d_X3_init_17 : decode cX3_init 17 = .ok (.aload_n 0, 1) := by decide +kernel
theorem d_X3_init_18 : decode cX3_init 18 = .ok (.iconst 0, 1) := by decide +kernel
theorem d_X3_init_19 : decode cX3_init 19 = .ok (.putfield 19, 3) := by decide +kernel
theorem d_X3_init_22 : decode cX3_init 22 = .ok (.aload_n 0, 1) := by decide +kernel
theorem d_X3_init_23 : decode cX3_init 23 = .ok (.iconst 0, 1) := by decide +kernel
theorem d_X3_init_24 : decode cX3_init 24 = .ok (.putfield 22, 3) := by decide +kernel
theorem d_X3_init_27 : decode cX3_init 27 = .ok (.aload_n 0, 1) := by decide +kernel
theorem d_X3_init_28 : decode cX3_init 28 = .ok (.iconst 0, 1) := by decide +kernel
theorem d_X3_init_29 : decode cX3_init 29 = .ok (.putfield 25, 3) := by decide +kernel
theorem d_X3_init_32 : decode cX3_init 32 = .ok (.aload_n 0, 1) := by decide +kernel
theorem d_X3_init_33 : decode cX3_init 33 = .ok (.iconst 0, 1) := by decide +kernel
theorem d_X3_init_34 : decode cX3_init 34 = .ok (.putfield 28, 3) := by decide +kernel
theorem d_X3_init_37 : decode cX3_init 37 = .ok (.return_, 1) := by decide +kernel
def B_X3_init (G : Gm) (h : Nat) (u : Nat → Nat) : va_W := [(h, .inr (3, [.ref (u 0), .int 0, .int 0, .int 0, .int 0, .int 0])), ((u 0), .inl (G.2.2.1 0, 120, .inl (fun _ => 0)))]
set_option maxHeartbeats 4000000 in
set_option maxRecDepth 100000 in
theorem c_X3_init {l : Launch} {G : Gm} : CTI l G yX3_init (wsOf yX3_init cX3_init 1 none) 2 3 [.null, .int 0, .int 0, .int 0, .int 0, .int 0] (B_X3_init G) 1 120 := by
  refine met_I (by decide +kernel) rfl rfl (by decide) ?_
  intro h p e s m args below meth c A ls hC hin hr hk hI hl
  generalize s.heap = H at hI ⊢
  generalize ([] : List Loc) = locs at hI ⊢
  refine lv_aload_n hC.1.1 hC.1.2.1 d_X3_init_0 rfl (lv_at hl 0 rfl) ?_
  refine n_obj hC hl.1 q113 d_X3_init_1 (Nat.le_of_ble_eq_true rfl) (Nat.le_of_ble_eq_true rfl) ?_
  refine lv_aload_n hC.1.1 hC.1.2.1 d_X3_init_4 rfl (lv_at hl 0 rfl) ?_
  refine lv_bipush (v := 120) hC.1.1 hC.1.2.1 d_X3_init_5 (by decide) ?_
  refine n_newa (N := 120) hC hI (by decide) (by decide) (Nat.le_of_ble_eq_true rfl) (Nat.le_of_ble_eq_true rfl) (Nat.le_of_ble_eq_true rfl) d_X3_init_7 (fun ob1 H hI => ?_)
  have hI : WI s G A [(h, .inr (3, [.null, .int 0, .int 0, .int 0, .int 0, .int 0])), (ob1, .inl (G.2.2.1 0, 120, .inl (fun _ => 0)))] H locs := hI
  refine n_putF (ci := 3) (k := 0) hC hI hin 0 rfl (by decide) (by decide) q114 rfl rfl rfl rfl (Nat.le_of_ble_eq_true rfl) d_X3_init_9 (fun H locs hI => ?_)
  have hI : WI s G A [(h, .inr (3, [.ref ob1, .int 0, .int 0, .int 0, .int 0, .int 0])), (ob1, .inl (G.2.2.1 0, 120, .inl (fun _ => 0)))] H locs := hI
  refine lv_aload_n hC.1.1 hC.1.2.1 d_X3_init_12 rfl (lv_at hl 0 rfl) ?_
  refine lv_iconst (v := 0) hC.1.1 hC.1.2.1 d_X3_init_13 (by decide) ?_
  refine n_put (ci := 3) (k := 1) hC hI 0 rfl (by decide) (by decide) q115 rfl rfl rfl (Nat.le_of_ble_eq_true rfl) d_X3_init_14 (fun H locs hI => ?_)
  have hI : WI s G A [(h, .inr (3, [.ref ob1, .int 0, .int 0, .int 0, .int 0, .int 0])), (ob1, .inl (G.2.2.1 0, 120, .inl (fun _ => 0)))] H locs := hI
  refine lv_aload_n hC.1.1 hC.1.2.1 d_X3_init_17 rfl (lv_at hl 0 rfl) ?_
  refine lv_iconst (v := 0) hC.1.1 hC.1.2.1 d_X3_init_18 (by decide) ?_
  refine n_put (ci := 3) (k := 2) hC hI 0 rfl (by decide) (by decide) q117 rfl rfl rfl (Nat.le_of_ble_eq_true rfl) d_X3_init_19 (fun H locs hI => ?_)
  have hI : WI s G A [(h, .inr (3, [.ref ob1, .int 0, .int 0, .int 0, .int 0, .int 0])), (ob1, .inl (G.2.2.1 0, 120, .inl (fun _ => 0)))] H locs := hI
  refine lv_aload_n hC.1.1 hC.1.2.1 d_X3_init_22 rfl (lv_at hl 0 rfl) ?_
  refine lv_iconst (v := 0) hC.1.1 hC.1.2.1 d_X3_init_23 (by decide) ?_
  refine n_put (ci := 3) (k := 3) hC hI 0 rfl (by decide) (by decide) q118 rfl rfl rfl (Nat.le_of_ble_eq_true rfl) d_X3_init_24 (fun H locs hI => ?_)
  have hI : WI s G A [(h, .inr (3, [.ref ob1, .int 0, .int 0, .int 0, .int 0, .int 0])), (ob1, .inl (G.2.2.1 0, 120, .inl (fun _ => 0)))] H locs := hI
  refine lv_aload_n hC.1.1 hC.1.2.1 d_X3_init_27 rfl (lv_at hl 0 rfl) ?_
  refine lv_iconst (v := 0) hC.1.1 hC.1.2.1 d_X3_init_28 (by decide) ?_
  refine n_put (ci := 3) (k := 4) hC hI 0 rfl (by decide) (by decide) q119 rfl rfl rfl (Nat.le_of_ble_eq_true rfl) d_X3_init_29 (fun H locs hI => ?_)
  have hI : WI s G A [(h, .inr (3, [.ref ob1, .int 0, .int 0, .int 0, .int 0, .int 0])), (ob1, .inl (G.2.2.1 0, 120, .inl (fun _ => 0)))] H locs := hI
  refine lv_aload_n hC.1.1 hC.1.2.1 d_X3_init_32 rfl (lv_at hl 0 rfl) ?_
  refine lv_iconst (v := 0) hC.1.1 hC.1.2.1 d_X3_init_33 (by decide) ?_
  refine n_put (ci := 3) (k := 5) hC hI 0 rfl (by decide) (by decide) q120 rfl rfl rfl (Nat.le_of_ble_eq_true rfl) d_X3_init_34 (fun H locs hI => ?_)
  have hI : WI s G A [(h, .inr (3, [.ref ob1, .int 0, .int 0, .int 0, .int 0, .int 0])), (ob1, .inl (G.2.2.1 0, 120, .inl (fun _ => 0)))] H locs := hI
  exact n_vret (B := B_X3_init G h) hC hI.2.2 hr hk d_X3_init_37 (fun _ => ob1) (hI.1.sub [0, 1] rfl) (hI.2.1.sub [0, 1] (by decide) rfl)
