/-- the addresses, once both objects stand -/
def adF (G : Gm) (h4 h5 : Nat) (u4 u5 : Nat → Nat) : Nat → Nat := fun i => bif Nat.ble 49 i then ad5 G h5 u5 i else ad4 h4 u4 i
theorem adF_hi {G : Gm} {h4 h5 : Nat} {u4 u5 : Nat → Nat} {i : Nat} (h : 61 ≤ i) : adF G h4 h5 u4 u5 i = G.2.1 i := by
  unfold adF ad5
  rw [bleT (show 49 ≤ i by omega), cond_true, beqF (show ¬ i = 49 by omega), cond_false, bleT h, cond_true]
theorem STR_F {G : Gm} {h4 h5 : Nat} {u4 u5 : Nat → Nat} {A : Nat → Prop} {U : State} {H : Heap} (h : STR G A U H) : STR (G.1, adF G h4 h5 u4 u5, G.2.2) A U H :=
  ⟨S_ext h.1 (fun i _ => adF_hi (by omega)) (fun i _ => adF_hi (by omega)), h.2.1, h.2.2.1, fun q hq => by
    show vk_R q.1 q.2.1 q.2.2.1 (adF G h4 h5 u4 u5 (61 + q.2.2.2)) U
    rw [adF_hi (by omega)]
    exact h.2.2.2 q hq⟩
set_option maxHeartbeats 4000000 in
set_option maxRecDepth 100000 in
/-- both objects are made, then the loop -/
theorem start_G {p : Program} {e : Env} {s : State} {m : MethodId} {below : List Frame} {meth : Method} {c : Code} {l : Launch} {b L : Nat} {xs : Nat → Int32} {G : Gm} {A : Nat → Prop} (hL : L ≤ 3072) (hC : CxI p s m #[Value.ref b] c 4 code RL G A) (hAs : ∀ q, A q → s.heap.size ≤ q) (hr : meth.sig.returnType = ret) (hk : meth.locks = false) (hX : va_X b L xs s s.heap) (hbl : b < s.heap.size) (hb : G.2.1 87 = b) {ls : Array Slot} (hl : lv_has ls 4 [(0, .ref b)]) : W p l e room_1 s m #[Value.ref b] below meth c s.heap [] 0 0 (lw_Z below #[Value.ref b] s) (F0 m 0 ls []) := by
  have hI : WI s G A [] s.heap [] := ⟨fun k q h => by simp at h, ⟨fun i j p q h => by simp at h, fun k q h => by simp at h⟩, va_S.rf⟩
  generalize s.heap = H at hI ⊢
  generalize ([] : List Loc) = locs at hI ⊢
  refine n_new (ci := 4) (fs := [.null, .null, .null, .int 0, .null, .null, .null]) hC hI (by decide) q14 q15 q1 df_X4 (Nat.le_of_ble_eq_true rfl) (Nat.le_of_ble_eq_true rfl) d_L_law_0 (fun ob1 H hI => ?_)
  have hI : WI s G A [(ob1, .inr (4, [.null, .null, .null, .int 0, .null, .null, .null]))] H locs := hI
  refine lv_dup hC.1.1 hC.1.2.1 d_L_law_3 rfl ?_
  refine n_callP (wr := []) c_X4_init hC hI hl.1 0 rfl [] rfl rfl (by decide) q16 q17 q1 q18 rfl ⟨by decide +kernel, by decide +kernel, by decide +kernel⟩ ⟨Nat.le_of_ble_eq_true rfl, Nat.le_of_ble_eq_true rfl⟩ (Nat.le_of_ble_eq_true rfl) d_L_law_4 ⟨Nat.le_of_ble_eq_true rfl, Nat.le_of_ble_eq_true rfl⟩ (fun u2 H locs hI => ?_)
  have hI : WI s G A (B_X4_init G ob1 u2) H locs := hI
  refine lv_astore_n (lv' := [(1, .ref ob1), (0, .ref b)]) hC.1.1 hC.1.2.1 d_L_law_7 rfl hl (by decide) rfl (fun ls hl => ?_)
  refine n_new (ci := 5) (fs := [.null, .null, .null, .int 0, .null, .int 0, .int 0, .null, .int 0, .int 0, .int 0, .int 0, .int 0, .int 0, .null, .null, .int 0, .int 0, .null, .null, .null, .null]) hC hI (by decide) q688 q689 q6 df_X5 (Nat.le_of_ble_eq_true rfl) (Nat.le_of_ble_eq_true rfl) d_L_law_8 (fun ob3 H hI => ?_)
  refine lv_dup hC.1.1 hC.1.2.1 d_L_law_11 rfl ?_
  refine n_callP (wr := B_X4_init G ob1 u2) c_X5_init hC hI hl.1 49 rfl [0, 1, 2, 3, 4, 5, 6, 7, 8, 9, 10, 11, 12, 13, 14, 15, 16, 17, 18, 19, 20, 21, 22, 23, 24, 25, 26, 27, 28, 29, 30, 31, 32, 33, 34, 35, 36, 37, 38, 39, 40, 41, 42, 43, 44, 45, 46, 47, 48] rfl rfl (by decide) q690 q691 q6 q692 rfl ⟨by decide +kernel, by decide +kernel, by decide +kernel⟩ ⟨Nat.le_of_ble_eq_true rfl, Nat.le_of_ble_eq_true rfl⟩ (Nat.le_of_ble_eq_true rfl) d_L_law_12 ⟨Nat.le_of_ble_eq_true rfl, Nat.le_of_ble_eq_true rfl⟩ (fun u4 H locs hI => ?_)
  refine lv_astore_n (lv' := [(2, .ref ob3), (1, .ref ob1), (0, .ref b)]) hC.1.1 hC.1.2.1 d_L_law_15 rfl hl (by decide) rfl (fun ls hl => ?_)
  refine lv_iconst (v := 0) hC.1.1 hC.1.2.1 d_L_law_16 (by decide) ?_
  refine lv_istore_n (lv' := [(3, .int 0), (2, .ref ob3), (1, .ref ob1), (0, .ref b)]) hC.1.1 hC.1.2.1 d_L_law_17 rfl hl (by decide) rfl (fun ls hl => ?_)
  have hP := hI.1
  have hD := hI.2.1
  have hP := P_row (q0 := 10) (n := 8) (cA := G.2.2.1 1) (f := fun k => some (ad4 ob1 u2 (rfOf 10 k))) (fun k => some (adF G ob1 ob3 u2 u4 (rfOf 10 k))) hP hD rfl (fun k hk => by rcases (show k = 0 ∨ k = 1 ∨ k = 2 ∨ k = 3 ∨ k = 4 ∨ k = 5 ∨ k = 6 ∨ k = 7 by omega) with rfl | rfl | rfl | rfl | rfl | rfl | rfl | rfl <;> rfl)
  have hD := hD.set (p := 10) (e0 := .inl (G.2.2.1 1, 8, .inr (.inr (.inr (.inr (fun k => some (ad4 ob1 u2 (rfOf 10 k)))))))) (e := .inl (G.2.2.1 1, 8, .inr (.inr (.inr (.inr (fun k => some (adF G ob1 ob3 u2 u4 (rfOf 10 k)))))))) rfl
  have hP := P_row (q0 := 11) (n := 8) (cA := G.2.2.1 1) (f := fun k => some (ad4 ob1 u2 (rfOf 11 k))) (fun k => some (adF G ob1 ob3 u2 u4 (rfOf 11 k))) hP hD rfl (fun k hk => by rcases (show k = 0 ∨ k = 1 ∨ k = 2 ∨ k = 3 ∨ k = 4 ∨ k = 5 ∨ k = 6 ∨ k = 7 by omega) with rfl | rfl | rfl | rfl | rfl | rfl | rfl | rfl <;> rfl)
  have hD := hD.set (p := 11) (e0 := .inl (G.2.2.1 1, 8, .inr (.inr (.inr (.inr (fun k => some (ad4 ob1 u2 (rfOf 11 k)))))))) (e := .inl (G.2.2.1 1, 8, .inr (.inr (.inr (.inr (fun k => some (adF G ob1 ob3 u2 u4 (rfOf 11 k)))))))) rfl
  have hP := P_row (q0 := 12) (n := 8) (cA := G.2.2.1 1) (f := fun k => some (ad4 ob1 u2 (rfOf 12 k))) (fun k => some (adF G ob1 ob3 u2 u4 (rfOf 12 k))) hP hD rfl (fun k hk => by rcases (show k = 0 ∨ k = 1 ∨ k = 2 ∨ k = 3 ∨ k = 4 ∨ k = 5 ∨ k = 6 ∨ k = 7 by omega) with rfl | rfl | rfl | rfl | rfl | rfl | rfl | rfl <;> rfl)
  have hD := hD.set (p := 12) (e0 := .inl (G.2.2.1 1, 8, .inr (.inr (.inr (.inr (fun k => some (ad4 ob1 u2 (rfOf 12 k)))))))) (e := .inl (G.2.2.1 1, 8, .inr (.inr (.inr (.inr (fun k => some (adF G ob1 ob3 u2 u4 (rfOf 12 k)))))))) rfl
  have hP := P_row (q0 := 39) (n := 4) (cA := G.2.2.1 2) (f := fun k => some (ad4 ob1 u2 (rfOf 39 k))) (fun k => some (adF G ob1 ob3 u2 u4 (rfOf 39 k))) hP hD rfl (fun k hk => by rcases (show k = 0 ∨ k = 1 ∨ k = 2 ∨ k = 3 by omega) with rfl | rfl | rfl | rfl <;> rfl)
  have hD := hD.set (p := 39) (e0 := .inl (G.2.2.1 2, 4, .inr (.inr (.inr (.inr (fun k => some (ad4 ob1 u2 (rfOf 39 k)))))))) (e := .inl (G.2.2.1 2, 4, .inr (.inr (.inr (.inr (fun k => some (adF G ob1 ob3 u2 u4 (rfOf 39 k)))))))) rfl
  have hP := P_row (q0 := 60) (n := 7) (cA := G.2.2.1 3) (f := fun k => some (ad5 G ob3 u4 (rfOf 60 k))) (fun k => some (adF G ob1 ob3 u2 u4 (rfOf 60 k))) hP hD rfl (fun k hk => by rcases (show k = 0 ∨ k = 1 ∨ k = 2 ∨ k = 3 ∨ k = 4 ∨ k = 5 ∨ k = 6 by omega) with rfl | rfl | rfl | rfl | rfl | rfl | rfl <;> rfl)
  have hD := hD.set (p := 60) (e0 := .inl (G.2.2.1 3, 7, .inr (.inr (.inr (.inr (fun k => some (ad5 G ob3 u4 (rfOf 60 k)))))))) (e := .inl (G.2.2.1 3, 7, .inr (.inr (.inr (.inr (fun k => some (adF G ob1 ob3 u2 u4 (rfOf 60 k)))))))) rfl
  have hP : va_P G.1 classes (wld (G.1, adF G ob1 ob3 u2 u4, G.2.2) mu0) H := hP
  have hD : va_D A (wld (G.1, adF G ob1 ob3 u2 u4, G.2.2) mu0) := hD
  refine law_loop (G := (G.1, adF G ob1 ob3 u2 u4, G.2.2)) (A := A) (xs := xs) hL ?_ ?_ hAs ⟨Nat.le_of_ble_eq_true rfl, Nat.le_of_ble_eq_true rfl⟩ hr hk 600 0 H locs ls mu0 (by decide) (by omega) ⟨?_, hI.2.2⟩ Inv_mu0 (lv_sub hl [3, 2, 1, 0] ?_)
  · exact ⟨hC.1, hC.2.1.2.1, hC.2.1.1, fun i j hi hj e => hD.1 i j _ _ (wld_at hi) (wld_at hj) e, fun i hi => hD.2 i _ (wld_at hi), hC.2.2, STR_F hC.2.1.2.2.2, Nat.le_of_ble_eq_true rfl, Nat.le_of_ble_eq_true rfl⟩
  · have e87 : adF G ob1 ob3 u2 u4 87 = b := (adF_hi (by decide)).trans hb
    refine ⟨?_, ?_, ?_⟩
    · show va_X (adF G ob1 ob3 u2 u4 87) L xs s s.heap
      rw [e87]; exact hX
    · show adF G ob1 ob3 u2 u4 87 < s.heap.size
      rw [e87]; exact hbl
    · show ¬ A (adF G ob1 ob3 u2 u4 87)
      rw [e87]
      exact fun z => absurd (hAs b z) (Nat.not_le.mpr hbl)
  · exact hP
  · show [(0, Value.ref b), (1, .ref ob1), (2, .ref ob3), (3, .int 0)] = [(0, .ref (adF G ob1 ob3 u2 u4 87)), (1, .ref ob1), (2, .ref ob3), (3, .int (nI 0))]
    rw [(adF_hi (by decide) : adF G ob1 ob3 u2 u4 87 = G.2.1 87), hb]
    rfl
