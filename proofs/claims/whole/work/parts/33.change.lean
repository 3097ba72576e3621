/-! change -/
set_option maxRecDepth 100000 in
theorem x_put0 {μ : Mem} {k : Rtn} {X : Option Rz} {i : Nat} {v : Int32} (hb : Nat.beq (kd i) 1 = true) (hk : ∀ μ', μ' = up2 μ i 0 v → k none μ' = X) : S_X1_put [.ref i, .int 0, .int v] μ k = X := by
  refine unl (bfT rfl ?_)
  refine (@bfT _ _ _ _ _ (hb)) ?_
  exact hk _ rfl
set_option maxRecDepth 100000 in
theorem T_change0 {μ : Mem} {k1 : Rtn} {K : Int32 → Rtn} {X : Option Rz} (hI : Inv μ) {d v : Int32} (hd : hasR (μ 50) d) (g1 : ¬ d < 0) (g2 : d < μ 1 7) (g3 : ¬ μ 50 1 - 1 < d) (hm : ∀ w μ1, k1 (some (.int w)) μ1 = S_X5_change [.ref 49, .int d, .int 0, .int v] μ1 (K w)) (hK : ∀ v w μ2, v = w → Inv μ2 → K v (some (.int w)) μ2 = X) : S_X4_change [.ref 0, .int d, .int 0, .int v] μ k1 = X := by
  have hx := hd.dI hI.1.2
  by_cases v1 : v < 0
  · refine unl (bfT rfl ?_)
    repeat' (first | refine brT (by assumption) ?_ | refine brF (by assumption) ?_ | refine br (fun q => ?_) (fun q => ?_))
    refine (@bfT _ _ _ _ _ (in8 hx)) ?_
    refine (@bfT _ _ _ _ _ (kdq_1 hx)) ?_
    repeat' (first | refine brT (by assumption) ?_ | refine brF (by assumption) ?_ | refine br (fun q => ?_) (fun q => ?_))
    refine x_tell0 ?_; refine (hm _ _).trans ?_; refine unl (bfT rfl ?_); (repeat' (first | refine brF c10 ?_ | refine brT c00 ?_ | refine brF c01 ?_ | refine brT c11 ?_ | refine brT (by assumption) ?_ | refine brF (by assumption) ?_)); refine e_find0 ?_; exact hK _ _ _ rfl (Inv_tell hI (by decide))
  by_cases v2 : 6 < v
  · refine unl (bfT rfl ?_)
    repeat' (first | refine brT (by assumption) ?_ | refine brF (by assumption) ?_ | refine br (fun q => ?_) (fun q => ?_))
    refine (@bfT _ _ _ _ _ (in8 hx)) ?_
    refine (@bfT _ _ _ _ _ (kdq_1 hx)) ?_
    repeat' (first | refine brT (by assumption) ?_ | refine brF (by assumption) ?_ | refine br (fun q => ?_) (fun q => ?_))
    refine x_tell0 ?_; refine (hm _ _).trans ?_; refine unl (bfT rfl ?_); (repeat' (first | refine brF c10 ?_ | refine brT c00 ?_ | refine brF c01 ?_ | refine brT c11 ?_ | refine brT (by assumption) ?_ | refine brF (by assumption) ?_)); refine e_find0 ?_; exact hK _ _ _ rfl (Inv_tell hI (by decide))
  have vb : VB v 6 := nlt_VB (by decide) v1 v2
  refine unl (bfT rfl ?_)
  repeat' (first | refine brT (by assumption) ?_ | refine brF (by assumption) ?_ | refine br (fun q => ?_) (fun q => ?_))
  refine (@bfT _ _ _ _ _ (in8 hx)) ?_
  refine (@bfT _ _ _ _ _ (kdq_1 hx)) ?_
  repeat' (first | refine brT (by assumption) ?_ | refine brF (by assumption) ?_ | refine br (fun q => ?_) (fun q => ?_))
  refine (@bfT _ _ _ _ _ (kdq_1 hx)) ?_
  refine x_tells (kdq_1 hx) (hasR.kd hI.1.1 hI.1.2 hd) ?_
  refine (@bfT _ _ _ _ _ (kdq_1 hx)) ?_
  refine x_put0 (kdq_1 hx) (fun μ1 em => ?_)
  have n50 : ¬ 50 = 13 + d.toNatClampNeg := by
    obtain ⟨j, hj, e⟩ := hx
    rw [e, nI_cl (by omega)]
    omega
  have e50 : μ1 50 = μ 50 := by rw [em]; exact up2_ne _ _ n50
  have g4 : ¬ μ1 50 1 - 1 < d := by rw [e50]; exact g3
  refine (hm _ _).trans ?_
  refine unl (bfT rfl ?_)
  repeat' (first | refine brF c10 ?_ | refine brT c00 ?_ | refine brF c01 ?_ | refine brT c11 ?_ | refine brT (by assumption) ?_ | refine brF (by assumption) ?_)
  refine (@bfT _ _ _ _ _ (dI_in hx f0)) ?_
  refine (@bfT _ _ _ _ _ (dI_in hx f0)) ?_
  obtain ⟨j, hj, rfl⟩ := hd
  have h8 := hI.1.2.n8
  have e1 : (nI j).toNatClampNeg = j := nI_cl (by omega)
  have e2 : ((22 : Int32) + 6 * nI j + 0).toNatClampNeg = 22 + 6 * j + 0 := ixD_cl (g := 0) (by omega) (by decide)
  refine hK _ _ _ ?_ ?_
  · have e3 : μ (13 + (nI j).toNatClampNeg) 0 = μ1 50 ((22 : Int32) + 6 * nI j + 0).toNatClampNeg := by
      rw [e1, e2, e50]
      exact hI.1.1.2.2.2 j hj 0 (by decide)
    exact e3
  · have e4 : Inv (up1 μ1 50 (upf (μ1 50) ((22 : Int32) + 6 * nI j + 0).toNatClampNeg v)) := by
      rw [e2, e50, em]
      show Inv (up1 (up2 μ (13 + (nI j).toNatClampNeg) 0 v) 50 _)
      rw [e1]
      exact Inv_put hI hj (by decide) (fun _ => vb) (nf rfl) (nf rfl) (nf rfl) (nf rfl)
    exact e4
set_option maxRecDepth 100000 in
theorem x_put1 {μ : Mem} {k : Rtn} {X : Option Rz} {i : Nat} {v : Int32} (hb : Nat.beq (kd i) 1 = true) (hk : ∀ μ', μ' = up2 μ i 1 v → k none μ' = X) : S_X1_put [.ref i, .int 1, .int v] μ k = X := by
  refine unl (bfT rfl ?_)
  refine (@bfT _ _ _ _ _ (hb)) ?_
  exact hk _ rfl
set_option maxRecDepth 100000 in
theorem T_change1 {μ : Mem} {k1 : Rtn} {K : Int32 → Rtn} {X : Option Rz} (hI : Inv μ) {d v : Int32} (hd : hasR (μ 50) d) (g1 : ¬ d < 0) (g2 : d < μ 1 7) (g3 : ¬ μ 50 1 - 1 < d) (hm : ∀ w μ1, k1 (some (.int w)) μ1 = S_X5_change [.ref 49, .int d, .int 1, .int v] μ1 (K w)) (hK : ∀ v w μ2, v = w → Inv μ2 → K v (some (.int w)) μ2 = X) : S_X4_change [.ref 0, .int d, .int 1, .int v] μ k1 = X := by
  have hx := hd.dI hI.1.2
  by_cases v1 : v < 0
  · refine unl (bfT rfl ?_)
    repeat' (first | refine brT (by assumption) ?_ | refine brF (by assumption) ?_ | refine br (fun q => ?_) (fun q => ?_))
    refine (@bfT _ _ _ _ _ (in8 hx)) ?_
    refine (@bfT _ _ _ _ _ (kdq_1 hx)) ?_
    repeat' (first | refine brT (by assumption) ?_ | refine brF (by assumption) ?_ | refine br (fun q => ?_) (fun q => ?_))
    refine x_tell0 ?_; refine (hm _ _).trans ?_; refine unl (bfT rfl ?_); (repeat' (first | refine brF c10 ?_ | refine brT c00 ?_ | refine brF c01 ?_ | refine brT c11 ?_ | refine brT (by assumption) ?_ | refine brF (by assumption) ?_)); refine e_find0 ?_; exact hK _ _ _ rfl (Inv_tell hI (by decide))
  by_cases v2 : 99 < v
  · refine unl (bfT rfl ?_)
    repeat' (first | refine brT (by assumption) ?_ | refine brF (by assumption) ?_ | refine br (fun q => ?_) (fun q => ?_))
    refine (@bfT _ _ _ _ _ (in8 hx)) ?_
    refine (@bfT _ _ _ _ _ (kdq_1 hx)) ?_
    repeat' (first | refine brT (by assumption) ?_ | refine brF (by assumption) ?_ | refine br (fun q => ?_) (fun q => ?_))
    refine x_tell0 ?_; refine (hm _ _).trans ?_; refine unl (bfT rfl ?_); (repeat' (first | refine brF c10 ?_ | refine brT c00 ?_ | refine brF c01 ?_ | refine brT c11 ?_ | refine brT (by assumption) ?_ | refine brF (by assumption) ?_)); refine e_find0 ?_; exact hK _ _ _ rfl (Inv_tell hI (by decide))
  have vb : VB v 99 := nlt_VB (by decide) v1 v2
  refine unl (bfT rfl ?_)
  repeat' (first | refine brT (by assumption) ?_ | refine brF (by assumption) ?_ | refine br (fun q => ?_) (fun q => ?_))
  refine (@bfT _ _ _ _ _ (in8 hx)) ?_
  refine (@bfT _ _ _ _ _ (kdq_1 hx)) ?_
  repeat' (first | refine brT (by assumption) ?_ | refine brF (by assumption) ?_ | refine br (fun q => ?_) (fun q => ?_))
  refine (@bfT _ _ _ _ _ (kdq_1 hx)) ?_
  refine x_tells (kdq_1 hx) (hasR.kd hI.1.1 hI.1.2 hd) ?_
  refine (@bfT _ _ _ _ _ (kdq_1 hx)) ?_
  refine x_put1 (kdq_1 hx) (fun μ1 em => ?_)
  have n50 : ¬ 50 = 13 + d.toNatClampNeg := by
    obtain ⟨j, hj, e⟩ := hx
    rw [e, nI_cl (by omega)]
    omega
  have e50 : μ1 50 = μ 50 := by rw [em]; exact up2_ne _ _ n50
  have g4 : ¬ μ1 50 1 - 1 < d := by rw [e50]; exact g3
  refine (hm _ _).trans ?_
  refine unl (bfT rfl ?_)
  repeat' (first | refine brF c10 ?_ | refine brT c00 ?_ | refine brF c01 ?_ | refine brT c11 ?_ | refine brT (by assumption) ?_ | refine brF (by assumption) ?_)
  refine (@bfT _ _ _ _ _ (dI_in hx f1)) ?_
  refine (@bfT _ _ _ _ _ (dI_in hx f1)) ?_
  obtain ⟨j, hj, rfl⟩ := hd
  have h8 := hI.1.2.n8
  have e1 : (nI j).toNatClampNeg = j := nI_cl (by omega)
  have e2 : ((22 : Int32) + 6 * nI j + 1).toNatClampNeg = 22 + 6 * j + 1 := ixD_cl (g := 1) (by omega) (by decide)
  refine hK _ _ _ ?_ ?_
  · have e3 : μ (13 + (nI j).toNatClampNeg) 1 = μ1 50 ((22 : Int32) + 6 * nI j + 1).toNatClampNeg := by
      rw [e1, e2, e50]
      exact hI.1.1.2.2.2 j hj 1 (by decide)
    exact e3
  · have e4 : Inv (up1 μ1 50 (upf (μ1 50) ((22 : Int32) + 6 * nI j + 1).toNatClampNeg v)) := by
      rw [e2, e50, em]
      show Inv (up1 (up2 μ (13 + (nI j).toNatClampNeg) 1 v) 50 _)
      rw [e1]
      exact Inv_put hI hj (by decide) (nf rfl) (fun _ => vb) (nf rfl) (nf rfl) (nf rfl)
    exact e4
set_option maxRecDepth 100000 in
theorem x_put2 {μ : Mem} {k : Rtn} {X : Option Rz} {i : Nat} {v : Int32} (hb : Nat.beq (kd i) 1 = true) (hk : ∀ μ', μ' = up2 μ i 2 v → k none μ' = X) : S_X1_put [.ref i, .int 2, .int v] μ k = X := by
  refine unl (bfT rfl ?_)
  refine (@bfT _ _ _ _ _ (hb)) ?_
  exact hk _ rfl
set_option maxRecDepth 100000 in
theorem T_change2 {μ : Mem} {k1 : Rtn} {K : Int32 → Rtn} {X : Option Rz} (hI : Inv μ) {d v : Int32} (hd : hasR (μ 50) d) (g1 : ¬ d < 0) (g2 : d < μ 1 7) (g3 : ¬ μ 50 1 - 1 < d) (hm : ∀ w μ1, k1 (some (.int w)) μ1 = S_X5_change [.ref 49, .int d, .int 2, .int v] μ1 (K w)) (hK : ∀ v w μ2, v = w → Inv μ2 → K v (some (.int w)) μ2 = X) : S_X4_change [.ref 0, .int d, .int 2, .int v] μ k1 = X := by
  have hx := hd.dI hI.1.2
  by_cases v1 : v < 0
  · refine unl (bfT rfl ?_)
    repeat' (first | refine brT (by assumption) ?_ | refine brF (by assumption) ?_ | refine br (fun q => ?_) (fun q => ?_))
    refine (@bfT _ _ _ _ _ (in8 hx)) ?_
    refine (@bfT _ _ _ _ _ (kdq_1 hx)) ?_
    repeat' (first | refine brT (by assumption) ?_ | refine brF (by assumption) ?_ | refine br (fun q => ?_) (fun q => ?_))
    refine x_tell0 ?_; refine (hm _ _).trans ?_; refine unl (bfT rfl ?_); (repeat' (first | refine brF c10 ?_ | refine brT c00 ?_ | refine brF c01 ?_ | refine brT c11 ?_ | refine brT (by assumption) ?_ | refine brF (by assumption) ?_)); refine e_find0 ?_; exact hK _ _ _ rfl (Inv_tell hI (by decide))
  by_cases v2 : 99 < v
  · refine unl (bfT rfl ?_)
    repeat' (first | refine brT (by assumption) ?_ | refine brF (by assumption) ?_ | refine br (fun q => ?_) (fun q => ?_))
    refine (@bfT _ _ _ _ _ (in8 hx)) ?_
    refine (@bfT _ _ _ _ _ (kdq_1 hx)) ?_
    repeat' (first | refine brT (by assumption) ?_ | refine brF (by assumption) ?_ | refine br (fun q => ?_) (fun q => ?_))
    refine x_tell0 ?_; refine (hm _ _).trans ?_; refine unl (bfT rfl ?_); (repeat' (first | refine brF c10 ?_ | refine brT c00 ?_ | refine brF c01 ?_ | refine brT c11 ?_ | refine brT (by assumption) ?_ | refine brF (by assumption) ?_)); refine e_find0 ?_; exact hK _ _ _ rfl (Inv_tell hI (by decide))
  have vb : VB v 99 := nlt_VB (by decide) v1 v2
  refine unl (bfT rfl ?_)
  repeat' (first | refine brT (by assumption) ?_ | refine brF (by assumption) ?_ | refine br (fun q => ?_) (fun q => ?_))
  refine (@bfT _ _ _ _ _ (in8 hx)) ?_
  refine (@bfT _ _ _ _ _ (kdq_1 hx)) ?_
  repeat' (first | refine brT (by assumption) ?_ | refine brF (by assumption) ?_ | refine br (fun q => ?_) (fun q => ?_))
  refine (@bfT _ _ _ _ _ (kdq_1 hx)) ?_
  refine x_tells (kdq_1 hx) (hasR.kd hI.1.1 hI.1.2 hd) ?_
  refine (@bfT _ _ _ _ _ (kdq_1 hx)) ?_
  refine x_put2 (kdq_1 hx) (fun μ1 em => ?_)
  have n50 : ¬ 50 = 13 + d.toNatClampNeg := by
    obtain ⟨j, hj, e⟩ := hx
    rw [e, nI_cl (by omega)]
    omega
  have e50 : μ1 50 = μ 50 := by rw [em]; exact up2_ne _ _ n50
  have g4 : ¬ μ1 50 1 - 1 < d := by rw [e50]; exact g3
  refine (hm _ _).trans ?_
  refine unl (bfT rfl ?_)
  repeat' (first | refine brF c10 ?_ | refine brT c00 ?_ | refine brF c01 ?_ | refine brT c11 ?_ | refine brT (by assumption) ?_ | refine brF (by assumption) ?_)
  refine (@bfT _ _ _ _ _ (dI_in hx f2)) ?_
  refine (@bfT _ _ _ _ _ (dI_in hx f2)) ?_
  obtain ⟨j, hj, rfl⟩ := hd
  have h8 := hI.1.2.n8
  have e1 : (nI j).toNatClampNeg = j := nI_cl (by omega)
  have e2 : ((22 : Int32) + 6 * nI j + 2).toNatClampNeg = 22 + 6 * j + 2 := ixD_cl (g := 2) (by omega) (by decide)
  refine hK _ _ _ ?_ ?_
  · have e3 : μ (13 + (nI j).toNatClampNeg) 2 = μ1 50 ((22 : Int32) + 6 * nI j + 2).toNatClampNeg := by
      rw [e1, e2, e50]
      exact hI.1.1.2.2.2 j hj 2 (by decide)
    exact e3
  · have e4 : Inv (up1 μ1 50 (upf (μ1 50) ((22 : Int32) + 6 * nI j + 2).toNatClampNeg v)) := by
      rw [e2, e50, em]
      show Inv (up1 (up2 μ (13 + (nI j).toNatClampNeg) 2 v) 50 _)
      rw [e1]
      exact Inv_put hI hj (by decide) (nf rfl) (nf rfl) (fun _ => vb) (nf rfl) (nf rfl)
    exact e4
set_option maxRecDepth 100000 in
theorem x_put3 {μ : Mem} {k : Rtn} {X : Option Rz} {i : Nat} {v : Int32} (hb : Nat.beq (kd i) 1 = true) (hk : ∀ μ', μ' = up2 μ i 3 v → k none μ' = X) : S_X1_put [.ref i, .int 3, .int v] μ k = X := by
  refine unl (bfT rfl ?_)
  refine (@bfT _ _ _ _ _ (hb)) ?_
  exact hk _ rfl
set_option maxRecDepth 100000 in
theorem T_change3 {μ : Mem} {k1 : Rtn} {K : Int32 → Rtn} {X : Option Rz} (hI : Inv μ) {d v : Int32} (hd : hasR (μ 50) d) (g1 : ¬ d < 0) (g2 : d < μ 1 7) (g3 : ¬ μ 50 1 - 1 < d) (hm : ∀ w μ1, k1 (some (.int w)) μ1 = S_X5_change [.ref 49, .int d, .int 3, .int v] μ1 (K w)) (hK : ∀ v w μ2, v = w → Inv μ2 → K v (some (.int w)) μ2 = X) : S_X4_change [.ref 0, .int d, .int 3, .int v] μ k1 = X := by
  have hx := hd.dI hI.1.2
  by_cases v1 : v < 0
  · refine unl (bfT rfl ?_)
    repeat' (first | refine brT (by assumption) ?_ | refine brF (by assumption) ?_ | refine br (fun q => ?_) (fun q => ?_))
    refine (@bfT _ _ _ _ _ (in8 hx)) ?_
    refine (@bfT _ _ _ _ _ (kdq_1 hx)) ?_
    repeat' (first | refine brT (by assumption) ?_ | refine brF (by assumption) ?_ | refine br (fun q => ?_) (fun q => ?_))
    refine x_tell0 ?_; refine (hm _ _).trans ?_; refine unl (bfT rfl ?_); (repeat' (first | refine brF c10 ?_ | refine brT c00 ?_ | refine brF c01 ?_ | refine brT c11 ?_ | refine brT (by assumption) ?_ | refine brF (by assumption) ?_)); refine e_find0 ?_; exact hK _ _ _ rfl (Inv_tell hI (by decide))
  by_cases v2 : 9999 < v
  · refine unl (bfT rfl ?_)
    repeat' (first | refine brT (by assumption) ?_ | refine brF (by assumption) ?_ | refine br (fun q => ?_) (fun q => ?_))
    refine (@bfT _ _ _ _ _ (in8 hx)) ?_
    refine (@bfT _ _ _ _ _ (kdq_1 hx)) ?_
    repeat' (first | refine brT (by assumption) ?_ | refine brF (by assumption) ?_ | refine br (fun q => ?_) (fun q => ?_))
    refine x_tell0 ?_; refine (hm _ _).trans ?_; refine unl (bfT rfl ?_); (repeat' (first | refine brF c10 ?_ | refine brT c00 ?_ | refine brF c01 ?_ | refine brT c11 ?_ | refine brT (by assumption) ?_ | refine brF (by assumption) ?_)); refine e_find0 ?_; exact hK _ _ _ rfl (Inv_tell hI (by decide))
  have vb : VB v 9999 := nlt_VB (by decide) v1 v2
  refine unl (bfT rfl ?_)
  repeat' (first | refine brT (by assumption) ?_ | refine brF (by assumption) ?_ | refine br (fun q => ?_) (fun q => ?_))
  refine (@bfT _ _ _ _ _ (in8 hx)) ?_
  refine (@bfT _ _ _ _ _ (kdq_1 hx)) ?_
  repeat' (first | refine brT (by assumption) ?_ | refine brF (by assumption) ?_ | refine br (fun q => ?_) (fun q => ?_))
  refine (@bfT _ _ _ _ _ (kdq_1 hx)) ?_
  refine x_tells (kdq_1 hx) (hasR.kd hI.1.1 hI.1.2 hd) ?_
  refine (@bfT _ _ _ _ _ (kdq_1 hx)) ?_
  refine x_put3 (kdq_1 hx) (fun μ1 em => ?_)
  have n50 : ¬ 50 = 13 + d.toNatClampNeg := by
    obtain ⟨j, hj, e⟩ := hx
    rw [e, nI_cl (by omega)]
    omega
  have e50 : μ1 50 = μ 50 := by rw [em]; exact up2_ne _ _ n50
  have g4 : ¬ μ1 50 1 - 1 < d := by rw [e50]; exact g3
  refine (hm _ _).trans ?_
  refine unl (bfT rfl ?_)
  repeat' (first | refine brF c10 ?_ | refine brT c00 ?_ | refine brF c01 ?_ | refine brT c11 ?_ | refine brT (by assumption) ?_ | refine brF (by assumption) ?_)
  refine (@bfT _ _ _ _ _ (dI_in hx f3)) ?_
  refine (@bfT _ _ _ _ _ (dI_in hx f3)) ?_
  obtain ⟨j, hj, rfl⟩ := hd
  have h8 := hI.1.2.n8
  have e1 : (nI j).toNatClampNeg = j := nI_cl (by omega)
  have e2 : ((22 : Int32) + 6 * nI j + 3).toNatClampNeg = 22 + 6 * j + 3 := ixD_cl (g := 3) (by omega) (by decide)
  refine hK _ _ _ ?_ ?_
  · have e3 : μ (13 + (nI j).toNatClampNeg) 3 = μ1 50 ((22 : Int32) + 6 * nI j + 3).toNatClampNeg := by
      rw [e1, e2, e50]
      exact hI.1.1.2.2.2 j hj 3 (by decide)
    exact e3
  · have e4 : Inv (up1 μ1 50 (upf (μ1 50) ((22 : Int32) + 6 * nI j + 3).toNatClampNeg v)) := by
      rw [e2, e50, em]
      show Inv (up1 (up2 μ (13 + (nI j).toNatClampNeg) 3 v) 50 _)
      rw [e1]
      exact Inv_put hI hj (by decide) (nf rfl) (nf rfl) (nf rfl) (fun _ => vb) (nf rfl)
    exact e4
set_option maxRecDepth 100000 in
theorem x_put4 {μ : Mem} {k : Rtn} {X : Option Rz} {i : Nat} {v : Int32} (hb : Nat.beq (kd i) 1 = true) (hk : ∀ μ', μ' = up2 μ i 4 v → k none μ' = X) : S_X1_put [.ref i, .int 4, .int v] μ k = X := by
  refine unl (bfT rfl ?_)
  refine (@bfT _ _ _ _ _ (hb)) ?_
  exact hk _ rfl
set_option maxRecDepth 100000 in
theorem T_change4 {μ : Mem} {k1 : Rtn} {K : Int32 → Rtn} {X : Option Rz} (hI : Inv μ) {d v : Int32} (hd : hasR (μ 50) d) (g1 : ¬ d < 0) (g2 : d < μ 1 7) (g3 : ¬ μ 50 1 - 1 < d) (hm : ∀ w μ1, k1 (some (.int w)) μ1 = S_X5_change [.ref 49, .int d, .int 4, .int v] μ1 (K w)) (hK : ∀ v w μ2, v = w → Inv μ2 → K v (some (.int w)) μ2 = X) : S_X4_change [.ref 0, .int d, .int 4, .int v] μ k1 = X := by
  have hx := hd.dI hI.1.2
  by_cases v1 : v < 0
  · refine unl (bfT rfl ?_)
    repeat' (first | refine brT (by assumption) ?_ | refine brF (by assumption) ?_ | refine br (fun q => ?_) (fun q => ?_))
    refine (@bfT _ _ _ _ _ (in8 hx)) ?_
    refine (@bfT _ _ _ _ _ (kdq_1 hx)) ?_
    repeat' (first | refine brT (by assumption) ?_ | refine brF (by assumption) ?_ | refine br (fun q => ?_) (fun q => ?_))
    refine x_tell0 ?_; refine (hm _ _).trans ?_; refine unl (bfT rfl ?_); (repeat' (first | refine brF c10 ?_ | refine brT c00 ?_ | refine brF c01 ?_ | refine brT c11 ?_ | refine brT (by assumption) ?_ | refine brF (by assumption) ?_)); refine e_find0 ?_; exact hK _ _ _ rfl (Inv_tell hI (by decide))
  by_cases v2 : 9999 < v
  · refine unl (bfT rfl ?_)
    repeat' (first | refine brT (by assumption) ?_ | refine brF (by assumption) ?_ | refine br (fun q => ?_) (fun q => ?_))
    refine (@bfT _ _ _ _ _ (in8 hx)) ?_
    refine (@bfT _ _ _ _ _ (kdq_1 hx)) ?_
    repeat' (first | refine brT (by assumption) ?_ | refine brF (by assumption) ?_ | refine br (fun q => ?_) (fun q => ?_))
    refine x_tell0 ?_; refine (hm _ _).trans ?_; refine unl (bfT rfl ?_); (repeat' (first | refine brF c10 ?_ | refine brT c00 ?_ | refine brF c01 ?_ | refine brT c11 ?_ | refine brT (by assumption) ?_ | refine brF (by assumption) ?_)); refine e_find0 ?_; exact hK _ _ _ rfl (Inv_tell hI (by decide))
  have vb : VB v 9999 := nlt_VB (by decide) v1 v2
  refine unl (bfT rfl ?_)
  repeat' (first | refine brT (by assumption) ?_ | refine brF (by assumption) ?_ | refine br (fun q => ?_) (fun q => ?_))
  refine (@bfT _ _ _ _ _ (in8 hx)) ?_
  refine (@bfT _ _ _ _ _ (kdq_1 hx)) ?_
  repeat' (first | refine brT (by assumption) ?_ | refine brF (by assumption) ?_ | refine br (fun q => ?_) (fun q => ?_))
  refine (@bfT _ _ _ _ _ (kdq_1 hx)) ?_
  refine x_tells (kdq_1 hx) (hasR.kd hI.1.1 hI.1.2 hd) ?_
  refine (@bfT _ _ _ _ _ (kdq_1 hx)) ?_
  refine x_put4 (kdq_1 hx) (fun μ1 em => ?_)
  have n50 : ¬ 50 = 13 + d.toNatClampNeg := by
    obtain ⟨j, hj, e⟩ := hx
    rw [e, nI_cl (by omega)]
    omega
  have e50 : μ1 50 = μ 50 := by rw [em]; exact up2_ne _ _ n50
  have g4 : ¬ μ1 50 1 - 1 < d := by rw [e50]; exact g3
  refine (hm _ _).trans ?_
  refine unl (bfT rfl ?_)
  repeat' (first | refine brF c10 ?_ | refine brT c00 ?_ | refine brF c01 ?_ | refine brT c11 ?_ | refine brT (by assumption) ?_ | refine brF (by assumption) ?_)
  refine (@bfT _ _ _ _ _ (dI_in hx f4)) ?_
  refine (@bfT _ _ _ _ _ (dI_in hx f4)) ?_
  obtain ⟨j, hj, rfl⟩ := hd
  have h8 := hI.1.2.n8
  have e1 : (nI j).toNatClampNeg = j := nI_cl (by omega)
  have e2 : ((22 : Int32) + 6 * nI j + 4).toNatClampNeg = 22 + 6 * j + 4 := ixD_cl (g := 4) (by omega) (by decide)
  refine hK _ _ _ ?_ ?_
  · have e3 : μ (13 + (nI j).toNatClampNeg) 4 = μ1 50 ((22 : Int32) + 6 * nI j + 4).toNatClampNeg := by
      rw [e1, e2, e50]
      exact hI.1.1.2.2.2 j hj 4 (by decide)
    exact e3
  · have e4 : Inv (up1 μ1 50 (upf (μ1 50) ((22 : Int32) + 6 * nI j + 4).toNatClampNeg v)) := by
      rw [e2, e50, em]
      show Inv (up1 (up2 μ (13 + (nI j).toNatClampNeg) 4 v) 50 _)
      rw [e1]
      exact Inv_put hI hj (by decide) (nf rfl) (nf rfl) (nf rfl) (nf rfl) (nf rfl)
    exact e4
set_option maxRecDepth 100000 in
theorem x_put5 {μ : Mem} {k : Rtn} {X : Option Rz} {i : Nat} {v : Int32} (hb : Nat.beq (kd i) 1 = true) (hk : ∀ μ', μ' = up2 μ i 5 v → k none μ' = X) : S_X1_put [.ref i, .int 5, .int v] μ k = X := by
  refine unl (bfT rfl ?_)
  refine (@bfT _ _ _ _ _ (hb)) ?_
  exact hk _ rfl
set_option maxRecDepth 100000 in
theorem T_change5 {μ : Mem} {k1 : Rtn} {K : Int32 → Rtn} {X : Option Rz} (hI : Inv μ) {d v : Int32} (hd : hasR (μ 50) d) (g1 : ¬ d < 0) (g2 : d < μ 1 7) (g3 : ¬ μ 50 1 - 1 < d) (hm : ∀ w μ1, k1 (some (.int w)) μ1 = S_X5_change [.ref 49, .int d, .int 5, .int v] μ1 (K w)) (hK : ∀ v w μ2, v = w → Inv μ2 → K v (some (.int w)) μ2 = X) : S_X4_change [.ref 0, .int d, .int 5, .int v] μ k1 = X := by
  have hx := hd.dI hI.1.2
  by_cases v1 : v < 0
  · refine unl (bfT rfl ?_)
    repeat' (first | refine brT (by assumption) ?_ | refine brF (by assumption) ?_ | refine br (fun q => ?_) (fun q => ?_))
    refine (@bfT _ _ _ _ _ (in8 hx)) ?_
    refine (@bfT _ _ _ _ _ (kdq_1 hx)) ?_
    repeat' (first | refine brT (by assumption) ?_ | refine brF (by assumption) ?_ | refine br (fun q => ?_) (fun q => ?_))
    refine x_tell0 ?_; refine (hm _ _).trans ?_; refine unl (bfT rfl ?_); (repeat' (first | refine brF c10 ?_ | refine brT c00 ?_ | refine brF c01 ?_ | refine brT c11 ?_ | refine brT (by assumption) ?_ | refine brF (by assumption) ?_)); refine e_find0 ?_; exact hK _ _ _ rfl (Inv_tell hI (by decide))
  by_cases v2 : 1 < v
  · refine unl (bfT rfl ?_)
    repeat' (first | refine brT (by assumption) ?_ | refine brF (by assumption) ?_ | refine br (fun q => ?_) (fun q => ?_))
    refine (@bfT _ _ _ _ _ (in8 hx)) ?_
    refine (@bfT _ _ _ _ _ (kdq_1 hx)) ?_
    repeat' (first | refine brT (by assumption) ?_ | refine brF (by assumption) ?_ | refine br (fun q => ?_) (fun q => ?_))
    refine x_tell0 ?_; refine (hm _ _).trans ?_; refine unl (bfT rfl ?_); (repeat' (first | refine brF c10 ?_ | refine brT c00 ?_ | refine brF c01 ?_ | refine brT c11 ?_ | refine brT (by assumption) ?_ | refine brF (by assumption) ?_)); refine e_find0 ?_; exact hK _ _ _ rfl (Inv_tell hI (by decide))
  have vb : VB v 1 := nlt_VB (by decide) v1 v2
  refine unl (bfT rfl ?_)
  repeat' (first | refine brT (by assumption) ?_ | refine brF (by assumption) ?_ | refine br (fun q => ?_) (fun q => ?_))
  refine (@bfT _ _ _ _ _ (in8 hx)) ?_
  refine (@bfT _ _ _ _ _ (kdq_1 hx)) ?_
  repeat' (first | refine brT (by assumption) ?_ | refine brF (by assumption) ?_ | refine br (fun q => ?_) (fun q => ?_))
  refine (@bfT _ _ _ _ _ (kdq_1 hx)) ?_
  refine x_tells (kdq_1 hx) (hasR.kd hI.1.1 hI.1.2 hd) ?_
  refine (@bfT _ _ _ _ _ (kdq_1 hx)) ?_
  refine x_put5 (kdq_1 hx) (fun μ1 em => ?_)
  have n50 : ¬ 50 = 13 + d.toNatClampNeg := by
    obtain ⟨j, hj, e⟩ := hx
    rw [e, nI_cl (by omega)]
    omega
  have e50 : μ1 50 = μ 50 := by rw [em]; exact up2_ne _ _ n50
  have g4 : ¬ μ1 50 1 - 1 < d := by rw [e50]; exact g3
  refine (hm _ _).trans ?_
  refine unl (bfT rfl ?_)
  repeat' (first | refine brF c10 ?_ | refine brT c00 ?_ | refine brF c01 ?_ | refine brT c11 ?_ | refine brT (by assumption) ?_ | refine brF (by assumption) ?_)
  refine (@bfT _ _ _ _ _ (dI_in hx f5)) ?_
  refine (@bfT _ _ _ _ _ (dI_in hx f5)) ?_
  obtain ⟨j, hj, rfl⟩ := hd
  have h8 := hI.1.2.n8
  have e1 : (nI j).toNatClampNeg = j := nI_cl (by omega)
  have e2 : ((22 : Int32) + 6 * nI j + 5).toNatClampNeg = 22 + 6 * j + 5 := ixD_cl (g := 5) (by omega) (by decide)
  refine hK _ _ _ ?_ ?_
  · have e3 : μ (13 + (nI j).toNatClampNeg) 5 = μ1 50 ((22 : Int32) + 6 * nI j + 5).toNatClampNeg := by
      rw [e1, e2, e50]
      exact hI.1.1.2.2.2 j hj 5 (by decide)
    exact e3
  · have e4 : Inv (up1 μ1 50 (upf (μ1 50) ((22 : Int32) + 6 * nI j + 5).toNatClampNeg v)) := by
      rw [e2, e50, em]
      show Inv (up1 (up2 μ (13 + (nI j).toNatClampNeg) 5 v) 50 _)
      rw [e1]
      exact Inv_put hI hj (by decide) (nf rfl) (nf rfl) (nf rfl) (nf rfl) (fun _ => vb)
    exact e4
set_option maxRecDepth 100000 in
theorem T_change {μ : Mem} {k1 : Rtn} {K : Int32 → Rtn} {X : Option Rz} (hI : Inv μ) {d w v : Int32} (hm : ∀ z μ1, k1 (some (.int z)) μ1 = S_X5_change [.ref 49, .int d, .int w, .int v] μ1 (K z)) (hK : ∀ v w μ2, v = w → Inv μ2 → K v (some (.int w)) μ2 = X) : S_X4_change [.ref 0, .int d, .int w, .int v] μ k1 = X := by
  rcases has_cases hI d with ⟨hd, g1, g2, g3⟩ | g1 | ⟨g1, g2, g3⟩
  · by_cases w0 : w = 0
    · subst w0; exact T_change0 hI hd g1 g2 g3 hm hK
    by_cases w1 : w = 1
    · subst w1; exact T_change1 hI hd g1 g2 g3 hm hK
    by_cases w2 : w = 2
    · subst w2; exact T_change2 hI hd g1 g2 g3 hm hK
    by_cases w3 : w = 3
    · subst w3; exact T_change3 hI hd g1 g2 g3 hm hK
    by_cases w4 : w = 4
    · subst w4; exact T_change4 hI hd g1 g2 g3 hm hK
    by_cases w5 : w = 5
    · subst w5; exact T_change5 hI hd g1 g2 g3 hm hK
    refine unl (bfT rfl ?_)
    refine brF g1 ?_
    refine brT g2 ?_
    refine br (fun q => ?_) (fun q => ?_)
    · refine x_tell0 ?_; refine (hm _ _).trans ?_; refine unl (bfT rfl ?_); (repeat' (first | refine brF c10 ?_ | refine brT c00 ?_ | refine brF c01 ?_ | refine brT c11 ?_ | refine brT (by assumption) ?_ | refine brF (by assumption) ?_)); refine e_find0 ?_; exact hK _ _ _ rfl (Inv_tell hI (by decide))
    refine br (fun q2 => ?_) (fun q2 => ?_)
    · refine x_tell0 ?_; refine (hm _ _).trans ?_; refine unl (bfT rfl ?_); (repeat' (first | refine brF c10 ?_ | refine brT c00 ?_ | refine brF c01 ?_ | refine brT c11 ?_ | refine brT (by assumption) ?_ | refine brF (by assumption) ?_)); refine e_find0 ?_; exact hK _ _ _ rfl (Inv_tell hI (by decide))
    · exfalso
      obtain ⟨j, hj, e⟩ := nlt_VB (n := 5) (by decide) q q2
      rcases (by omega : j = 0 ∨ j = 1 ∨ j = 2 ∨ j = 3 ∨ j = 4 ∨ j = 5) with rfl | rfl | rfl | rfl | rfl | rfl
      · exact w0 e
      · exact w1 e
      · exact w2 e
      · exact w3 e
      · exact w4 e
      · exact w5 e
  · refine unl (bfT rfl ?_)
    repeat' (first | refine brT (by assumption) ?_ | refine brF (by assumption) ?_ | refine br (fun q => ?_) (fun q => ?_))
    refine x_tell0 ?_; refine (hm _ _).trans ?_; refine unl (bfT rfl ?_); (repeat' (first | refine brF c10 ?_ | refine brT c00 ?_ | refine brF c01 ?_ | refine brT c11 ?_ | refine brT (by assumption) ?_ | refine brF (by assumption) ?_)); refine e_find0 ?_; exact hK _ _ _ rfl (Inv_tell hI (by decide))
  · refine unl (bfT rfl ?_)
    repeat' (first | refine brT (by assumption) ?_ | refine brF (by assumption) ?_ | refine br (fun q => ?_) (fun q => ?_))
    refine x_tell0 ?_; refine (hm _ _).trans ?_; refine unl (bfT rfl ?_); (repeat' (first | refine brF c10 ?_ | refine brT c00 ?_ | refine brF c01 ?_ | refine brT c11 ?_ | refine brT (by assumption) ?_ | refine brF (by assumption) ?_)); refine e_find0 ?_; exact hK _ _ _ rfl (Inv_tell hI (by decide))
