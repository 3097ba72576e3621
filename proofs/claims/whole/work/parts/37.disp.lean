/-! a new one in both -/
set_option maxRecDepth 100000 in
theorem e_comes {μ : Mem} {k : Rtn} {X : Option Rz} {n : Nat} {a b : Int32} (hn : n < 8) (en : μ 50 1 = nI n) (hk : ∀ μ', μ' = up1 μ 50 (cmR (μ 50) n a b) → k (some (.int (nI n))) μ' = X) : S_X5_comes [.ref 49, .int a, .int b] μ k = X := by
  have hx : dI (μ 50 1) := ⟨n, hn, en⟩
  have e0 : ((22 : Int32) + 6 * nI n + 0).toNatClampNeg = 22 + 6 * n := ixD_cl (g := 0) hn (by decide)
  have e1 : ((22 : Int32) + 6 * nI n + 1).toNatClampNeg = 22 + 6 * n + 1 := ixD_cl (g := 1) hn (by decide)
  have e2 : ((22 : Int32) + 6 * nI n + 2).toNatClampNeg = 22 + 6 * n + 2 := ixD_cl (g := 2) hn (by decide)
  have e3 : ((22 : Int32) + 6 * nI n + 3).toNatClampNeg = 22 + 6 * n + 3 := ixD_cl (g := 3) hn (by decide)
  have e4 : ((22 : Int32) + 6 * nI n + 4).toNatClampNeg = 22 + 6 * n + 4 := ixD_cl (g := 4) hn (by decide)
  have e5 : ((22 : Int32) + 6 * nI n + 5).toNatClampNeg = 22 + 6 * n + 5 := ixD_cl (g := 5) hn (by decide)
  have fin : up2 (up2 (up2 (up2 (up2 (up2 (up2 (up2 (up2 (up2 μ 50 ((22 : Int32) + 6 * nI n + 0).toNatClampNeg 0) 50 ((22 : Int32) + 6 * nI n + 1).toNatClampNeg 0) 50 ((22 : Int32) + 6 * nI n + 2).toNatClampNeg 0) 50 ((22 : Int32) + 6 * nI n + 3).toNatClampNeg 0) 50 ((22 : Int32) + 6 * nI n + 4).toNatClampNeg 0) 50 ((22 : Int32) + 6 * nI n + 5).toNatClampNeg 0) 50 ((22 : Int32) + 6 * nI n + 0).toNatClampNeg a) 50 ((22 : Int32) + 6 * nI n + 1).toNatClampNeg b) 50 ((22 : Int32) + 6 * nI n + 2).toNatClampNeg 20) 50 1 ((up2 (up2 (up2 (up2 (up2 (up2 (up2 (up2 (up2 μ 50 ((22 : Int32) + 6 * nI n + 0).toNatClampNeg 0) 50 ((22 : Int32) + 6 * nI n + 1).toNatClampNeg 0) 50 ((22 : Int32) + 6 * nI n + 2).toNatClampNeg 0) 50 ((22 : Int32) + 6 * nI n + 3).toNatClampNeg 0) 50 ((22 : Int32) + 6 * nI n + 4).toNatClampNeg 0) 50 ((22 : Int32) + 6 * nI n + 5).toNatClampNeg 0) 50 ((22 : Int32) + 6 * nI n + 0).toNatClampNeg a) 50 ((22 : Int32) + 6 * nI n + 1).toNatClampNeg b) 50 ((22 : Int32) + 6 * nI n + 2).toNatClampNeg 20) 50 1 + 1) = up1 μ 50 (cmR (μ 50) n a b) := by
    rw [e0, e1, e2, e3, e4, e5]
    have v : ((up2 (up2 (up2 (up2 (up2 (up2 (up2 (up2 (up2 μ 50 (22 + 6 * n) 0) 50 (22 + 6 * n + 1) 0) 50 (22 + 6 * n + 2) 0) 50 (22 + 6 * n + 3) 0) 50 (22 + 6 * n + 4) 0) 50 (22 + 6 * n + 5) 0) 50 (22 + 6 * n) a) 50 (22 + 6 * n + 1) b) 50 (22 + 6 * n + 2) 20) 50 1 + 1) = nI (n + 1) := by
      simp only [up2, up1_at, up1_same]
      rw [upf_ne _ _ (by omega), upf_ne _ _ (by omega), upf_ne _ _ (by omega), upf_ne _ _ (by omega), upf_ne _ _ (by omega), upf_ne _ _ (by omega), upf_ne _ _ (by omega), upf_ne _ _ (by omega), upf_ne _ _ (by omega), en, nI_1]
    rw [v]
    simp only [up2, up1_at, up1_same]
    rfl
  have main : ∀ (x : Int32), x = nI n → ∀ (f : Nat), Nat.ble 600 f = true → lockO (oILd 4 12) 0 (runK P_X5_comes f k) k [some (.ref 49), some (.int a), some (.int b), some (.int x), some (.int 0)] [] μ = X := by
    intro x hxn f hf
    obtain ⟨F, rfl⟩ : ∃ F, f = F + 200 := ⟨f - 200, by have := Nat.le_of_ble_eq_true hf; omega⟩
    subst hxn
    have hy : dI (nI n) := ⟨n, hn, rfl⟩
    refine unO ?_
    refine (@bfT _ _ _ _ _ (dI_in hy f0)) ?_
    refine unO ?_
    refine (@bfT _ _ _ _ _ (dI_in hy f1)) ?_
    refine unO ?_
    refine (@bfT _ _ _ _ _ (dI_in hy f2)) ?_
    refine unO ?_
    refine (@bfT _ _ _ _ _ (dI_in hy f3)) ?_
    refine unO ?_
    refine (@bfT _ _ _ _ _ (dI_in hy f4)) ?_
    refine unO ?_
    refine (@bfT _ _ _ _ _ (dI_in hy f5)) ?_
    refine unO ?_
    refine (@bfT _ _ _ _ _ (dI_in hy f0)) ?_
    refine (@bfT _ _ _ _ _ (dI_in hy f1)) ?_
    refine (@bfT _ _ _ _ _ (dI_in hy f2)) ?_
    exact hk _ fin
  refine unl (bfT rfl ?_)
  exact main _ en _ rfl
set_option maxRecDepth 100000 in
theorem T_disputant {μ : Mem} {k1 : Rtn} {K : Int32 → Rtn} {X : Option Rz} (hI : Inv μ) {a b : Int32} (hm : ∀ z μ1, k1 (some (.int z)) μ1 = S_X5_disputant [.ref 49, .int a, .int b] μ1 (K z)) (hK : ∀ v w μ2, v = w → Inv μ2 → K v (some (.int w)) μ2 = X) : S_X4_disputant [.ref 0, .int a, .int b] μ k1 = X := by
  by_cases a1 : a < 0
  · refine unl (bfT rfl ?_)
    repeat' (first | refine brT (by assumption) ?_ | refine brF (by assumption) ?_ | refine br (fun q => ?_) (fun q => ?_))
    all_goals (refine x_tell0 ?_; refine (hm _ _).trans ?_; refine unl (bfT rfl ?_); (repeat' (first | refine brF c10 ?_ | refine brT c00 ?_ | refine brF c01 ?_ | refine brT c11 ?_ | refine brT (by assumption) ?_ | refine brF (by assumption) ?_)); refine e_find0 ?_; exact hK _ _ _ rfl (Inv_tell hI (by decide)))
  by_cases a2 : 6 < a
  · refine unl (bfT rfl ?_)
    repeat' (first | refine brT (by assumption) ?_ | refine brF (by assumption) ?_ | refine br (fun q => ?_) (fun q => ?_))
    all_goals (refine x_tell0 ?_; refine (hm _ _).trans ?_; refine unl (bfT rfl ?_); (repeat' (first | refine brF c10 ?_ | refine brT c00 ?_ | refine brF c01 ?_ | refine brT c11 ?_ | refine brT (by assumption) ?_ | refine brF (by assumption) ?_)); refine e_find0 ?_; exact hK _ _ _ rfl (Inv_tell hI (by decide)))
  by_cases b1 : b < 0
  · refine unl (bfT rfl ?_)
    repeat' (first | refine brT (by assumption) ?_ | refine brF (by assumption) ?_ | refine br (fun q => ?_) (fun q => ?_))
    all_goals (refine x_tell0 ?_; refine (hm _ _).trans ?_; refine unl (bfT rfl ?_); (repeat' (first | refine brF c10 ?_ | refine brT c00 ?_ | refine brF c01 ?_ | refine brT c11 ?_ | refine brT (by assumption) ?_ | refine brF (by assumption) ?_)); refine e_find0 ?_; exact hK _ _ _ rfl (Inv_tell hI (by decide)))
  by_cases b2 : 99 < b
  · refine unl (bfT rfl ?_)
    repeat' (first | refine brT (by assumption) ?_ | refine brF (by assumption) ?_ | refine br (fun q => ?_) (fun q => ?_))
    all_goals (refine x_tell0 ?_; refine (hm _ _).trans ?_; refine unl (bfT rfl ?_); (repeat' (first | refine brF c10 ?_ | refine brT c00 ?_ | refine brF c01 ?_ | refine brT c11 ?_ | refine brT (by assumption) ?_ | refine brF (by assumption) ?_)); refine e_find0 ?_; exact hK _ _ _ rfl (Inv_tell hI (by decide)))
  obtain ⟨n, hn, en⟩ := hI.1.2.1.2.1
  have e7 : μ 1 7 = nI n := by rw [hI.1.1.1.2.1, en]
  by_cases h8 : n = 8
  · subst h8
    have g1 : ¬ μ 1 7 < 8 := by rw [e7]; decide
    have g2 : μ 50 1 = 8 := en
    refine unl (bfT rfl ?_)
    repeat' (first | refine brT (by assumption) ?_ | refine brF (by assumption) ?_ | refine br (fun q => ?_) (fun q => ?_))
    all_goals (refine x_tell1 ?_; refine (hm _ _).trans ?_; refine unl (bfT rfl ?_); (repeat' (first | refine brF c10 ?_ | refine brT c00 ?_ | refine brF c01 ?_ | refine brT c11 ?_ | refine brT (by assumption) ?_ | refine brF (by assumption) ?_)); refine e_find1 ?_; exact hK _ _ _ rfl (Inv_tell hI (by decide)))
  · have g1 : μ 1 7 < 8 := by rw [e7]; exact nI_lt (a := n) (b := 8) (by omega) (by decide)
    have g2 : ¬ μ 50 1 = 8 := by
      rw [en]
      intro q
      exact h8 ((nI_eq (a := n) (b := 8) (by omega) (by decide)).mp q)
    refine unl (bfT rfl ?_)
    repeat' (first | refine brF c10 ?_ | refine brT c00 ?_ | refine brF c01 ?_ | refine brT c11 ?_ | refine brT (by assumption) ?_ | refine brF (by assumption) ?_)
    refine x_admit_1 (n := n) (by omega) en hI.1.1 (fun μ1 r1 f1 => ?_)
    have e50 : μ1 50 = μ 50 := f1 50 (by unfold inC; omega)
    have g3 : ¬ μ1 50 1 = 8 := by rw [e50]; exact g2
    refine (hm _ _).trans ?_
    refine unl (bfT rfl ?_)
    repeat' (first | refine brF c10 ?_ | refine brT c00 ?_ | refine brF c01 ?_ | refine brT c11 ?_ | refine brT (by assumption) ?_ | refine brF (by assumption) ?_)
    refine e_comes (n := n) (by omega) (by rw [e50]; exact en) (fun μ2 e2 => ?_)
    rw [e50] at e2
    have hG := G1_admit (n := n) (a := a) (b := b) hI.1.2 (by omega) en (nlt_VB (by decide) a1 a2) (nlt_VB (by decide) b1 b2)
    refine hK _ _ _ rfl (Inv_court hI ?_ ⟨?_, ?_⟩)
    · rw [e2]; exact (FrA.c1 f1).tr FrA.up50
    · rw [e2, up1_at]
      exact rep_same (fun i hi => up1_ne _ _ (by unfold inC at hi; omega)) hG.n8 r1
    · rw [e2, up1_at]; exact hG
