/-! calls one by one: what both answer -/
theorem c01 : ¬ (0 : Int32) = 1 := by decide
theorem c11 : (1 : Int32) = 1 := rfl
theorem Inv_own {μ : Mem} (hI : Inv μ) {k : Nat} {v : Int32} (hk : k < 5) (hG : G1 (upf (μ 50) (cR k) v)) : Inv (up1 (up2 μ 1 k v) 50 (upf (μ 50) (cR k) v)) := by
  have h8 := hI.1.2.n8
  refine Inv_court hI ((FrA.c1 (Fr.up (Or.inl rfl))).tr FrA.up50) ⟨?_, ?_⟩
  · rw [up1_at]
    exact rep_same (fun i hi => up1_ne _ _ (by unfold inC at hi; omega)) hG.n8 (rep_own ⟨by decide, by decide⟩ hI.1.1 hk)
  · rw [up1_at]; exact hG
theorem nlt_VB {x : Int32} {n : Nat} (hn : n < 100000) (h1 : ¬ x < 0) (h2 : ¬ nI n < x) : VB x n := by
  obtain ⟨j, hj, rfl⟩ := nI_of h1
  refine ⟨j, ?_, rfl⟩
  rcases Nat.lt_or_ge n j with q | q
  · exact absurd (nI_lt q hj) h2
  · exact q
set_option maxRecDepth 100000 in
theorem T_set {μ : Mem} {k1 : Rtn} {K : Int32 → Rtn} {X : Option Rz} (hI : Inv μ) {a b : Int32} (hm : ∀ v μ1, k1 (some (.int v)) μ1 = S_X5_set [.ref 49, .int a, .int b] μ1 (K v)) (hK : ∀ v w μ2, v = w → Inv μ2 → K v (some (.int w)) μ2 = X) : S_X4_set [.ref 0, .int a, .int b] μ k1 = X := by
  by_cases a0 : a = 0
  · subst a0
    refine unl (bfT rfl ?_)
    repeat' (first | refine brF c10 ?_ | refine brT c00 ?_ | refine br (fun h => ?_) (fun h => ?_))
    all_goals (try (refine x_tell0 ?_; refine (hm _ _).trans ?_; refine unl (bfT rfl ?_); (repeat' (first | refine brF c10 ?_ | refine brT c00 ?_ | refine brF c01 ?_ | refine brT c11 ?_ | refine brT (by assumption) ?_ | refine brF (by assumption) ?_)); refine e_find0 ?_; exact hK _ _ _ rfl (Inv_tell hI (by decide))))
    refine (hm _ _).trans ?_
    refine unl (bfT rfl ?_)
    repeat' (first | refine brF c10 ?_ | refine brT c00 ?_ | refine brF c01 ?_ | refine brT c11 ?_ | refine brT (by assumption) ?_ | refine brF (by assumption) ?_)
    exact hK _ _ _ hI.1.1.1.2.2.2.1 (Inv_own (k := 0) hI (by decide) (G1_own hI.1.2 (by decide) (by decide) (nf rfl) (nf rfl) (nf rfl)))
  · by_cases a1 : a = 1
    · subst a1
      refine unl (bfT rfl ?_)
      repeat' (first | refine brF c10 ?_ | refine brT c00 ?_ | refine br (fun h => ?_) (fun h => ?_))
      all_goals (try (refine x_tell0 ?_; refine (hm _ _).trans ?_; refine unl (bfT rfl ?_); (repeat' (first | refine brF c10 ?_ | refine brT c00 ?_ | refine brF c01 ?_ | refine brT c11 ?_ | refine brT (by assumption) ?_ | refine brF (by assumption) ?_)); refine e_find0 ?_; exact hK _ _ _ rfl (Inv_tell hI (by decide))))
      refine (hm _ _).trans ?_
      refine unl (bfT rfl ?_)
      repeat' (first | refine brF c10 ?_ | refine brT c00 ?_ | refine brF c01 ?_ | refine brT c11 ?_ | refine brT (by assumption) ?_ | refine brF (by assumption) ?_)
      exact hK _ _ _ hI.1.1.1.2.2.2.2.1 (Inv_own (k := 1) hI (by decide) (G1_own hI.1.2 (by decide) (by decide) (nf rfl) (fun _ => nlt_VB (by decide) (by assumption) (by assumption)) (nf rfl)))
    · refine unl (bfT rfl ?_)
      refine brF a0 ?_
      refine brF a1 ?_
      refine x_tell0 ?_; refine (hm _ _).trans ?_; refine unl (bfT rfl ?_); (repeat' (first | refine brF c10 ?_ | refine brT c00 ?_ | refine brF c01 ?_ | refine brT c11 ?_ | refine brT (by assumption) ?_ | refine brF (by assumption) ?_)); refine e_find0 ?_; exact hK _ _ _ rfl (Inv_tell hI (by decide))
set_option maxRecDepth 100000 in
theorem T_court {μ : Mem} {k1 : Rtn} {K : Int32 → Rtn} {X : Option Rz} (hI : Inv μ) {a : Int32} (hm : ∀ v μ1, k1 (some (.int v)) μ1 = S_X5_court [.ref 49, .int a] μ1 (K v)) (hK : ∀ v w μ2, v = w → Inv μ2 → K v (some (.int w)) μ2 = X) : S_X4_court [.ref 0, .int a] μ k1 = X := by
  by_cases a0 : a = 0
  · subst a0
    refine unl (bfT rfl ?_)
    refine (hm _ _).trans ?_
    refine unl (bfT rfl ?_)
    exact hK _ _ _ hI.1.1.1.2.2.2.1 hI
  by_cases a1 : a = 1
  · subst a1
    refine unl (bfT rfl ?_)
    refine (hm _ _).trans ?_
    refine unl (bfT rfl ?_)
    exact hK _ _ _ hI.1.1.1.2.2.2.2.1 hI
  by_cases a2 : a = 2
  · subst a2
    refine unl (bfT rfl ?_)
    refine (hm _ _).trans ?_
    refine unl (bfT rfl ?_)
    exact hK _ _ _ hI.1.1.1.2.2.2.2.2 hI
  refine unl (bfT rfl ?_)
  refine brF a0 ?_
  refine brF a1 ?_
  refine brF a2 ?_
  refine x_tell0 ?_
  refine (hm _ _).trans ?_
  refine unl (bfT rfl ?_)
  refine br (fun q => ?_) (fun q => ?_)
  · refine e_find0 ?_
    exact hK _ _ _ rfl (Inv_tell hI (by decide))
  refine br (fun q2 => ?_) (fun q2 => ?_)
  · refine e_find0 ?_
    exact hK _ _ _ rfl (Inv_tell hI (by decide))
  · exfalso
    obtain ⟨j, hj, e⟩ := nlt_VB (n := 2) (by decide) q q2
    rcases (by omega : j = 0 ∨ j = 1 ∨ j = 2) with rfl | rfl | rfl
    · exact a0 e
    · exact a1 e
    · exact a2 e
theorem Inv_list {μ : Mem} (hI : Inv μ) {k : Nat} {v : Int32} (hk : k < 6) : Inv (up1 (up2 μ 4 k v) 50 (upf (μ 50) (6 + k) v)) := by
  have hG : G1 (upf (μ 50) (6 + k) v) := G1_own hI.1.2 (by omega) (by omega) (fun q => by omega) (fun q => by omega) (fun q => by omega)
  refine Inv_court hI ((FrA.c1 (Fr.up (Or.inr (Or.inl rfl)))).tr FrA.up50) ⟨?_, ?_⟩
  · rw [up1_at]
    exact rep_same (fun i hi => up1_ne _ _ (by unfold inC at hi; omega)) hG.n8 (rep_list (c := 1) ⟨by decide, by decide⟩ hI.1.1 hk)
  · rw [up1_at]; exact hG
set_option maxRecDepth 100000 in
theorem T_dispute {μ : Mem} {k1 : Rtn} {K : Int32 → Rtn} {X : Option Rz} (hI : Inv μ) {i a b : Int32} (hm : ∀ v μ1, k1 (some (.int v)) μ1 = S_X5_dispute [.ref 49, .int i, .int a, .int b] μ1 (K v)) (hK : ∀ v w μ2, v = w → Inv μ2 → K v (some (.int w)) μ2 = X) : S_X4_dispute [.ref 0, .int i, .int a, .int b] μ k1 = X := by
  refine unl (bfT rfl ?_)
  repeat' (first | refine brF c10 ?_ | refine brT c00 ?_ | refine br (fun h => ?_) (fun h => ?_))
  all_goals (try (refine x_tell0 ?_; refine (hm _ _).trans ?_; refine unl (bfT rfl ?_); (repeat' (first | refine brF c10 ?_ | refine brT c00 ?_ | refine brF c01 ?_ | refine brT c11 ?_ | refine brT (by assumption) ?_ | refine brF (by assumption) ?_)); refine e_find0 ?_; exact hK _ _ _ rfl (Inv_tell hI (by decide))))
  obtain ⟨j, hj, rfl⟩ := nlt_VB (n := 5) (x := i) (by decide) (by assumption) (by assumption)
  refine (@bfT _ _ _ _ _ (inB_nI (n := j) (L := 6) (by omega) (by decide))) ?_
  refine (@bfT _ _ _ _ _ (inB_nI (n := j) (L := 6) (by omega) (by decide))) ?_
  refine (hm _ _).trans ?_
  refine unl (bfT rfl ?_)
  repeat' (first | refine brF c10 ?_ | refine brT c00 ?_ | refine brF c01 ?_ | refine brT c11 ?_ | refine brT (by assumption) ?_ | refine brF (by assumption) ?_)
  have e : (6 : Int32) + nI j = nI (6 + j) := by rw [show (6 : Int32) = nI 6 from rfl, nI_add]
  have hi2 : inB ((6 : Int32) + nI j) 70 = true := by rw [e]; exact inB_nI (by omega) (by decide)
  refine (@bfT _ _ _ _ _ (hi2)) ?_
  refine (@bfT _ _ _ _ _ (hi2)) ?_
  have e1 : (nI j).toNatClampNeg = j := nI_cl (by omega)
  have e2 : ((6 : Int32) + nI j).toNatClampNeg = 6 + j := by rw [e]; exact nI_cl (by omega)
  have h9 := Inv_list (k := j) (v := 10 * a + b) hI (by omega)
  have h8 := hI.1.1.2.1 j (by omega)
  refine hK _ _ _ ?_ ?_
  · show μ 4 (nI j).toNatClampNeg = μ 50 ((6 : Int32) + nI j).toNatClampNeg
    rw [e1, e2]
    exact h8
  · show Inv (up1 (up2 μ 4 (nI j).toNatClampNeg (10 * a + b)) 50 (upf (μ 50) ((6 : Int32) + nI j).toNatClampNeg (10 * a + b)))
    rw [e1, e2]
    exact h9
set_option maxRecDepth 100000 in
theorem T_listed {μ : Mem} {k1 : Rtn} {K : Int32 → Rtn} {X : Option Rz} (hI : Inv μ) {i : Int32} (hm : ∀ v μ1, k1 (some (.int v)) μ1 = S_X5_listed [.ref 49, .int i] μ1 (K v)) (hK : ∀ v w μ2, v = w → Inv μ2 → K v (some (.int w)) μ2 = X) : S_X4_listed [.ref 0, .int i] μ k1 = X := by
  refine unl (bfT rfl ?_)
  repeat' (first | refine brF c10 ?_ | refine brT c00 ?_ | refine br (fun h => ?_) (fun h => ?_))
  all_goals (try (refine x_tell0 ?_; refine (hm _ _).trans ?_; refine unl (bfT rfl ?_); (repeat' (first | refine brF c10 ?_ | refine brT c00 ?_ | refine brF c01 ?_ | refine brT c11 ?_ | refine brT (by assumption) ?_ | refine brF (by assumption) ?_)); refine e_find0 ?_; exact hK _ _ _ rfl (Inv_tell hI (by decide))))
  obtain ⟨j, hj, rfl⟩ := nlt_VB (n := 5) (x := i) (by decide) (by assumption) (by assumption)
  refine (@bfT _ _ _ _ _ (inB_nI (n := j) (L := 6) (by omega) (by decide))) ?_
  refine (hm _ _).trans ?_
  refine unl (bfT rfl ?_)
  repeat' (first | refine brF c10 ?_ | refine brT c00 ?_ | refine brF c01 ?_ | refine brT c11 ?_ | refine brT (by assumption) ?_ | refine brF (by assumption) ?_)
  have e : (6 : Int32) + nI j = nI (6 + j) := by rw [show (6 : Int32) = nI 6 from rfl, nI_add]
  have hi2 : inB ((6 : Int32) + nI j) 70 = true := by rw [e]; exact inB_nI (by omega) (by decide)
  refine (@bfT _ _ _ _ _ (hi2)) ?_
  have e1 : (nI j).toNatClampNeg = j := nI_cl (by omega)
  have e2 : ((6 : Int32) + nI j).toNatClampNeg = 6 + j := by rw [e]; exact nI_cl (by omega)
  refine hK _ _ _ ?_ hI
  show μ 4 (nI j).toNatClampNeg = μ 50 ((6 : Int32) + nI j).toNatClampNeg
  rw [e1, e2]
  exact hI.1.1.2.1 j (by omega)
set_option maxRecDepth 100000 in
theorem T_seed {μ : Mem} {k1 : Rtn} {K : Int32 → Rtn} {X : Option Rz} (hI : Inv μ) {i : Int32} (hm : ∀ v μ1, k1 (some (.int v)) μ1 = S_X5_seed [.ref 49, .int i] μ1 (K v)) (hK : ∀ v w μ2, v = w → Inv μ2 → K v (some (.int w)) μ2 = X) : S_X4_seed [.ref 0, .int i] μ k1 = X := by
  refine unl (bfT rfl ?_)
  refine (hm _ _).trans ?_
  refine unl (bfT rfl ?_)
  exact hK _ _ _ hI.1.1.1.2.2.1 (Inv_own (k := 4) hI (by decide) (G1_own hI.1.2 (by decide) (by decide) (nf rfl) (nf rfl) (nf rfl)))
set_option maxRecDepth 100000 in
theorem T_tear {μ : Mem} {k1 : Rtn} {K : Int32 → Rtn} {X : Option Rz} (hI : Inv μ) (hm : ∀ v μ1, k1 (some (.int v)) μ1 = S_X5_tear [.ref 49] μ1 (K v)) (hK : ∀ v w μ2, v = w → Inv μ2 → K v (some (.int w)) μ2 = X) : S_X4_tear [.ref 0] μ k1 = X := by
  have hInv : ∀ ν : Mem, (∀ i, ¬ i = 0 → ¬ i = 49 → ν i = μ i) → ν 0 3 = 0 → ν 49 3 = 0 → ν 49 8 = μ 49 8 → Inv ν := by
    intro ν hh h0 h49 h8
    obtain ⟨i1, -, i3, i4, i5⟩ := hI
    refine ⟨⟨?_, ?_⟩, Or.inl ⟨h0, h49⟩, I3_same (hh 37 (by decide) (by decide)) (hh 38 (by decide) (by decide)) h8 (hh 54 (by decide) (by decide)) i3, I4_same (fun i a b => hh i (by omega) (by omega)) (hh 56 (by decide) (by decide)) (hh 57 (by decide) (by decide)) (hh 58 (by decide) (by decide)) i4, I5_same (hh 48 (by decide) (by decide)) (hh 53 (by decide) (by decide)) i5⟩
    · rw [hh 50 (by decide) (by decide)]
      exact rep_same (fun i hi => hh i (by unfold inC at hi; omega) (by unfold inC at hi; omega)) i1.2.n8 i1.1
    · rw [hh 50 (by decide) (by decide)]; exact i1.2
  refine unl (bfT rfl ?_)
  rcases hI.2.1 with ⟨q1, q2⟩ | ⟨q1, q2, -, -⟩
  · refine brT q1 ?_
    refine (hm _ _).trans ?_
    refine unl (bfT rfl ?_)
    refine brT q2 ?_
    refine hK _ _ _ rfl (hInv _ (fun i a b => ?_) rfl rfl rfl)
    exact (up2_ne _ _ b).trans (up2_ne _ _ a)
  · have n1 : ¬ μ 0 3 = 0 := by rw [q1]; decide
    have n2 : ¬ μ 49 3 = 0 := by rw [q2]; decide
    refine brF n1 ?_
    refine (hm _ _).trans ?_
    refine unl (bfT rfl ?_)
    refine brF n2 ?_
    refine hK _ _ _ rfl (hInv _ (fun i a b => ?_) rfl rfl rfl)
    exact (up2_ne _ _ b).trans (up2_ne _ _ a)
theorem has_cases {μ : Mem} (hI : Inv μ) (x : Int32) : (hasR (μ 50) x ∧ ¬ x < 0 ∧ x < μ 1 7 ∧ ¬ μ 50 1 - 1 < x) ∨ x < 0 ∨ (¬ x < 0 ∧ ¬ x < μ 1 7 ∧ μ 50 1 - 1 < x) := by
  have e := hI.1.1.1.2.1
  have hl := hI.1.2.lt x
  by_cases h1 : x < 0
  · exact Or.inr (Or.inl h1)
  · by_cases h2 : x < μ 50 1
    · exact Or.inl ⟨hI.1.2.has h1 h2, h1, by rw [e]; exact h2, hl.mp h2⟩
    · exact Or.inr (Or.inr ⟨h1, by rw [e]; exact h2, Classical.byContradiction (fun q => h2 (hl.mpr q))⟩)
