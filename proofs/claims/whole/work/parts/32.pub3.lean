/-! falls, hold, change, image, undo -/
set_option maxRecDepth 100000 in
theorem T_falls {μ : Mem} {k1 : Rtn} {K : Int32 → Rtn} {X : Option Rz} (hI : Inv μ) {a b : Int32} (hm : ∀ v μ1, k1 (some (.int v)) μ1 = S_X5_falls [.ref 49, .int a, .int b] μ1 (K v)) (hK : ∀ v w μ2, v = w → Inv μ2 → K v (some (.int w)) μ2 = X) : S_X4_falls [.ref 0, .int a, .int b] μ k1 = X := by
  rcases has_cases hI a with ⟨ha, g1, g2, g3⟩ | g1 | ⟨g1, g2, g3⟩
  · rcases has_cases hI b with ⟨hb, q1, q2, q3⟩ | q1 | ⟨q1, q2, q3⟩
    · by_cases hab : a = b
      · refine unl (bfT rfl ?_)
        repeat' (first | refine brT (by assumption) ?_ | refine brF (by assumption) ?_ | refine br (fun q => ?_) (fun q => ?_))
        refine x_tell0 ?_; refine (hm _ _).trans ?_; refine unl (bfT rfl ?_); (repeat' (first | refine brF c10 ?_ | refine brT c00 ?_ | refine brF c01 ?_ | refine brT c11 ?_ | refine brT (by assumption) ?_ | refine brF (by assumption) ?_)); refine e_find0 ?_; exact hK _ _ _ rfl (Inv_tell hI (by decide))
      · have hx := ha.dI hI.1.2
        have hy := hb.dI hI.1.2
        have e : μ 1 0 = ra (μ 50) 3 := hI.1.1.1.2.2.2.1
        have eL : loserX μ 1 (μ 1 0) a b = loserH (ra (μ 50) 3) (μ 50) a b := by rw [loserX_eq hI.1.1 hI.1.2 ha hb, e]
        refine unl (bfT rfl ?_)
        repeat' (first | refine brF c10 ?_ | refine brT c00 ?_ | refine brF c01 ?_ | refine brT c11 ?_ | refine brT (by assumption) ?_ | refine brF (by assumption) ?_)
        refine x_loser_1 hx hy ?_
        refine br (fun z => ?_) (fun z => ?_)
        · refine x_tell3 ?_
          refine (hm _ _).trans ?_
          have z2 : loserH (ra (μ 50) 3) (μ 50) a b < 0 := by
            have z9 : loserX μ 1 (μ 1 0) a b = -1 := z
            rw [← eL, z9]; decide
          refine unl (bfT rfl ?_)
          repeat' (first | refine brF c10 ?_ | refine brT c00 ?_ | refine brF c01 ?_ | refine brT c11 ?_ | refine brT (by assumption) ?_ | refine brF (by assumption) ?_)
          refine e_fallsFor hx hy ?_
          refine brT z2 ?_
          refine e_find3 ?_
          exact hK _ _ _ rfl (Inv_tell hI (by decide))
        · refine (hm _ _).trans ?_
          have z2 : ¬ loserH (ra (μ 50) 3) (μ 50) a b < 0 := by
            rw [← eL]
            rcases loserH_or (h := ra (μ 50) 3) (r := μ 50) (a := a) (b := b) with q | q | q
            · exact absurd (eL.trans q) z
            · rw [eL, q]; exact ha.nn hI.1.2
            · rw [eL, q]; exact hb.nn hI.1.2
          refine unl (bfT rfl ?_)
          repeat' (first | refine brF c10 ?_ | refine brT c00 ?_ | refine brF c01 ?_ | refine brT c11 ?_ | refine brT (by assumption) ?_ | refine brF (by assumption) ?_)
          refine e_fallsFor hx hy ?_
          refine brF z2 ?_
          exact hK _ _ _ eL hI
    · refine unl (bfT rfl ?_)
      repeat' (first | refine brT (by assumption) ?_ | refine brF (by assumption) ?_ | refine br (fun q => ?_) (fun q => ?_))
      refine x_tell0 ?_; refine (hm _ _).trans ?_; refine unl (bfT rfl ?_); (repeat' (first | refine brF c10 ?_ | refine brT c00 ?_ | refine brF c01 ?_ | refine brT c11 ?_ | refine brT (by assumption) ?_ | refine brF (by assumption) ?_)); refine e_find0 ?_; exact hK _ _ _ rfl (Inv_tell hI (by decide))
    · refine unl (bfT rfl ?_)
      repeat' (first | refine brT (by assumption) ?_ | refine brF (by assumption) ?_ | refine br (fun q => ?_) (fun q => ?_))
      refine x_tell0 ?_; refine (hm _ _).trans ?_; refine unl (bfT rfl ?_); (repeat' (first | refine brF c10 ?_ | refine brT c00 ?_ | refine brF c01 ?_ | refine brT c11 ?_ | refine brT (by assumption) ?_ | refine brF (by assumption) ?_)); refine e_find0 ?_; exact hK _ _ _ rfl (Inv_tell hI (by decide))
  · refine unl (bfT rfl ?_)
    repeat' (first | refine brT (by assumption) ?_ | refine brF (by assumption) ?_ | refine br (fun q => ?_) (fun q => ?_))
    refine x_tell0 ?_; refine (hm _ _).trans ?_; refine unl (bfT rfl ?_); (repeat' (first | refine brF c10 ?_ | refine brT c00 ?_ | refine brF c01 ?_ | refine brT c11 ?_ | refine brT (by assumption) ?_ | refine brF (by assumption) ?_)); refine e_find0 ?_; exact hK _ _ _ rfl (Inv_tell hI (by decide))
  · refine unl (bfT rfl ?_)
    repeat' (first | refine brT (by assumption) ?_ | refine brF (by assumption) ?_ | refine br (fun q => ?_) (fun q => ?_))
    refine x_tell0 ?_; refine (hm _ _).trans ?_; refine unl (bfT rfl ?_); (repeat' (first | refine brF c10 ?_ | refine brT c00 ?_ | refine brF c01 ?_ | refine brT c11 ?_ | refine brT (by assumption) ?_ | refine brF (by assumption) ?_)); refine e_find0 ?_; exact hK _ _ _ rfl (Inv_tell hI (by decide))
theorem G1_spot {r : Nat → Int32} (hG : G1 r) {k : Nat} {v : Int32} (hk : k < 10) (hv : v = -1 ∨ hasR r v) : G1 (upf r (12 + k) v) := by
  obtain ⟨⟨a0, a1, a4, a5⟩, q2, q3⟩ := hG
  have e1 : upf r (12 + k) v 1 = r 1 := upf_ne _ _ (by omega)
  refine ⟨⟨?_, ?_, ?_, ?_⟩, fun j hj => ?_, fun d2 hd2 => ?_⟩
  · rw [upf_ne r v (by omega)]; exact a0
  · rw [e1]; exact a1
  · rw [upf_ne r v (by omega)]; exact a4
  · rw [upf_ne r v (by omega)]; exact a5
  · rw [e1]
    by_cases e : j = k
    · subst e; rw [upf_at]; exact hv
    · rw [upf_ne r v (by omega)]; exact q2 j hj
  · rw [e1] at hd2
    rw [upf_ne r v (by omega), upf_ne r v (by omega), upf_ne r v (by omega), upf_ne r v (by omega), upf_ne r v (by omega)]
    exact q3 d2 hd2
theorem Inv_spot {μ : Mem} (hI : Inv μ) {k : Nat} {v : Int32} (hk : k < 10) (hv : v = -1 ∨ hasR (μ 50) v) : Inv (up1 (up2 μ 7 k v) 50 (upf (μ 50) (12 + k) v)) := by
  have hG : G1 (upf (μ 50) (12 + k) v) := G1_spot hI.1.2 hk hv
  refine Inv_court hI ((FrA.c1 (Fr.up (Or.inr (Or.inr (Or.inl rfl))))).tr FrA.up50) ⟨?_, ?_⟩
  · rw [up1_at]
    exact rep_same (fun i hi => up1_ne _ _ (by unfold inC at hi; omega)) hG.n8 (rep_spot (c := 1) ⟨by decide, by decide⟩ hI.1.1 hk)
  · rw [up1_at]; exact hG
set_option maxRecDepth 100000 in
theorem T_hold {μ : Mem} {k1 : Rtn} {K : Int32 → Rtn} {X : Option Rz} (hI : Inv μ) {s d : Int32} (hm : ∀ v μ1, k1 (some (.int v)) μ1 = S_X5_hold [.ref 49, .int s, .int d] μ1 (K v)) (hK : ∀ v w μ2, v = w → Inv μ2 → K v (some (.int w)) μ2 = X) : S_X4_hold [.ref 0, .int s, .int d] μ k1 = X := by
  by_cases s1 : s < 0
  · refine unl (bfT rfl ?_)
    repeat' (first | refine brT (by assumption) ?_ | refine brF (by assumption) ?_ | refine br (fun q => ?_) (fun q => ?_))
    refine x_tell0 ?_; refine (hm _ _).trans ?_; refine unl (bfT rfl ?_); (repeat' (first | refine brF c10 ?_ | refine brT c00 ?_ | refine brF c01 ?_ | refine brT c11 ?_ | refine brT (by assumption) ?_ | refine brF (by assumption) ?_)); refine e_find0 ?_; exact hK _ _ _ rfl (Inv_tell hI (by decide))
  by_cases s2 : 9 < s
  · refine unl (bfT rfl ?_)
    repeat' (first | refine brT (by assumption) ?_ | refine brF (by assumption) ?_ | refine br (fun q => ?_) (fun q => ?_))
    refine x_tell0 ?_; refine (hm _ _).trans ?_; refine unl (bfT rfl ?_); (repeat' (first | refine brF c10 ?_ | refine brT c00 ?_ | refine brF c01 ?_ | refine brT c11 ?_ | refine brT (by assumption) ?_ | refine brF (by assumption) ?_)); refine e_find0 ?_; exact hK _ _ _ rfl (Inv_tell hI (by decide))
  obtain ⟨j, hj, rfl⟩ := nlt_VB (n := 9) (by decide) s1 s2
  have e : (12 : Int32) + nI j = nI (12 + j) := by rw [show (12 : Int32) = nI 12 from rfl, nI_add]
  have hi2 : inB ((12 : Int32) + nI j) 70 = true := by rw [e]; exact inB_nI (by omega) (by decide)
  have hi1 : inB (nI j) 10 = true := inB_nI (by omega) (by decide)
  have e1 : (nI j).toNatClampNeg = j := nI_cl (by omega)
  have e2 : ((12 : Int32) + nI j).toNatClampNeg = 12 + j := by rw [e]; exact nI_cl (by omega)
  have fin : ∀ v : Int32, (v = -1 ∨ hasR (μ 50) v) → Inv (up1 (up2 μ 7 (nI j).toNatClampNeg v) 50 (upf (μ 50) ((12 : Int32) + nI j).toNatClampNeg v)) := by
    intro v hv
    rw [e1, e2]
    exact Inv_spot hI (by omega) hv
  by_cases dm : d = -1
  · refine unl (bfT rfl ?_)
    repeat' (first | refine brT (by assumption) ?_ | refine brF (by assumption) ?_ | refine br (fun q => ?_) (fun q => ?_))
    refine (@bfT _ _ _ _ _ (hi1)) ?_
    refine (hm _ _).trans ?_
    refine unl (bfT rfl ?_)
    repeat' (first | refine brF c10 ?_ | refine brT c00 ?_ | refine brF c01 ?_ | refine brT c11 ?_ | refine brT (by assumption) ?_ | refine brF (by assumption) ?_)
    refine (@bfT _ _ _ _ _ (hi2)) ?_
    exact hK _ _ _ rfl (fin d (Or.inl dm))
  rcases has_cases hI d with ⟨hd, g1, g2, g3⟩ | g1 | ⟨g1, g2, g3⟩
  · refine unl (bfT rfl ?_)
    repeat' (first | refine brT (by assumption) ?_ | refine brF (by assumption) ?_ | refine br (fun q => ?_) (fun q => ?_))
    refine (@bfT _ _ _ _ _ (hi1)) ?_
    refine (hm _ _).trans ?_
    refine unl (bfT rfl ?_)
    repeat' (first | refine brF c10 ?_ | refine brT c00 ?_ | refine brF c01 ?_ | refine brT c11 ?_ | refine brT (by assumption) ?_ | refine brF (by assumption) ?_)
    refine (@bfT _ _ _ _ _ (hi2)) ?_
    exact hK _ _ _ rfl (fin d (Or.inr hd))
  · refine unl (bfT rfl ?_)
    repeat' (first | refine brT (by assumption) ?_ | refine brF (by assumption) ?_ | refine br (fun q => ?_) (fun q => ?_))
    refine x_tell0 ?_; refine (hm _ _).trans ?_; refine unl (bfT rfl ?_); (repeat' (first | refine brF c10 ?_ | refine brT c00 ?_ | refine brF c01 ?_ | refine brT c11 ?_ | refine brT (by assumption) ?_ | refine brF (by assumption) ?_)); refine e_find0 ?_; exact hK _ _ _ rfl (Inv_tell hI (by decide))
  · refine unl (bfT rfl ?_)
    repeat' (first | refine brT (by assumption) ?_ | refine brF (by assumption) ?_ | refine br (fun q => ?_) (fun q => ?_))
    refine x_tell0 ?_; refine (hm _ _).trans ?_; refine unl (bfT rfl ?_); (repeat' (first | refine brF c10 ?_ | refine brT c00 ?_ | refine brF c01 ?_ | refine brT c11 ?_ | refine brT (by assumption) ?_ | refine brF (by assumption) ?_)); refine e_find0 ?_; exact hK _ _ _ rfl (Inv_tell hI (by decide))
theorem Inv_put {μ : Mem} (hI : Inv μ) {d g : Nat} {v : Int32} (hd : d < (μ 50 1).toNatClampNeg) (hg : g < 6) (h0 : g = 0 → VB v 6) (h1 : g = 1 → VB v 99) (h2 : g = 2 → VB v 99) (h3 : g = 3 → VB v 9999) (h5 : g = 5 → VB v 1) : Inv (up1 (up2 μ (13 + d) g v) 50 (upf (μ 50) (22 + 6 * d + g) v)) := by
  have hG := G1_put hI.1.2 hd hg h0 h1 h2 h3 h5
  have h8 := hI.1.2.n8
  refine Inv_court hI ((FrA.c1 (Fr.up (inC_d (c := 1) (by omega)))).tr FrA.up50) ⟨?_, ?_⟩
  · rw [up1_at]
    exact rep_same (fun i hi => up1_ne _ _ (by unfold inC at hi; omega)) hG.n8 (rep_put (c := 1) ⟨by decide, by decide⟩ hI.1.1 hd hg)
  · rw [up1_at]; exact hG

theorem rep_congr {μ : Mem} {c : Nat} {r s : Nat → Int32} (h : ∀ i, i < 70 → s i = r i) (hn : (r 1).toNatClampNeg ≤ 8) (hR : Rep μ c r) : Rep μ c s := by
  obtain ⟨h1, h7, h8, h9⟩ := hR
  unfold Rep
  rw [h 0 (by decide), h 1 (by decide), h 2 (by decide), h 3 (by decide), h 4 (by decide), h 5 (by decide)]
  refine ⟨h1, fun j hj => ?_, fun j hj => ?_, fun d hd f hf => ?_⟩
  · rw [h _ (by omega)]; exact h7 j hj
  · rw [h _ (by omega)]; exact h8 j hj
  · rw [h _ (by omega)]; exact h9 d hd f hf
theorem G1_congr {r s : Nat → Int32} (h : ∀ i, i < 70 → s i = r i) (hG : G1 r) : G1 s := by
  have h8 := hG.n8
  obtain ⟨q1, q2, q3⟩ := hG
  unfold G1
  rw [h 0 (by decide), h 1 (by decide), h 4 (by decide), h 5 (by decide)]
  refine ⟨q1, fun j hj => ?_, fun d hd => ?_⟩
  · rw [h _ (by omega)]; exact q2 j hj
  · rw [h _ (by omega), h _ (by omega), h _ (by omega), h _ (by omega), h _ (by omega)]; exact q3 d hd
theorem cpI_lt {f g : Nat → Int32} {i j : Nat} (h : j < i) : cpI i f g j = f j := by unfold cpI; rw [if_pos h]
theorem Inv_but2 {μ ν : Mem} (hI : Inv μ) (hh : ∀ i, ¬ i = 0 → ¬ i = 49 → ¬ inC 1 i → ¬ inC 3 i → ¬ i = 50 → ¬ i = 51 → ν i = μ i) (h8 : ν 49 8 = μ 49 8) (i1 : I1 ν) (i2 : I2 ν) : Inv ν := by
  obtain ⟨-, -, i3, i4, i5⟩ := hI
  have hf : ∀ i, 37 ≤ i → ¬ i = 49 → ¬ i = 50 → ¬ i = 51 → ν i = μ i := fun i a b c d => hh i (by omega) b (by unfold inC; omega) (by unfold inC; omega) c d
  exact ⟨i1, i2, I3_same (hf 37 (by decide) (by decide) (by decide) (by decide)) (hf 38 (by decide) (by decide) (by decide) (by decide)) h8 (hf 54 (by decide) (by decide) (by decide) (by decide)) i3, I4_same (fun i a b => hf i (by omega) (by omega) (by omega) (by omega)) (hf 56 (by decide) (by decide) (by decide) (by decide)) (hf 57 (by decide) (by decide) (by decide) (by decide)) (hf 58 (by decide) (by decide) (by decide) (by decide)) i4, I5_same (hf 48 (by decide) (by decide) (by decide) (by decide)) (hf 53 (by decide) (by decide) (by decide) (by decide)) i5⟩
set_option maxRecDepth 100000 in
theorem T_image {μ : Mem} {k1 : Rtn} {K : Int32 → Rtn} {X : Option Rz} (hI : Inv μ) (hm : ∀ v μ1, k1 (some (.int v)) μ1 = S_X5_image [.ref 49] μ1 (K v)) (hK : ∀ v w μ2, v = w → Inv μ2 → K v (some (.int w)) μ2 = X) : S_X4_image [.ref 0] μ k1 = X := by
  refine unl (bfT rfl ?_)
  refine x_bec_31 hI.1.1 hI.1.2 (fun μ1 r1 f1 => ?_)
  refine (hm _ _).trans ?_
  refine unl (bfT rfl ?_)
  refine e_copy_50_51 (fun μ2 e2 => ?_)
  refine hK _ _ _ rfl ?_
  have n8 := hI.1.2.n8
  have eo : ∀ i, ¬ i = 0 → ¬ i = 49 → ¬ i = 51 → ¬ inC 3 i → (up2 μ2 49 3 1) i = μ i := by
    intro i a b c d
    rw [up2_ne _ _ b, e2, up1_ne _ _ c]
    exact (up2_ne _ _ a).trans (f1 i d)
  have e50 : up2 μ2 49 3 1 50 = μ 50 := eo 50 (by decide) (by decide) (by decide) (by unfold inC; omega)
  have m50 : (up2 μ1 0 3 1) 50 = μ 50 := (up2_ne _ _ (by decide)).trans (f1 50 (by unfold inC; omega))
  have e51 : up2 μ2 49 3 1 51 = cpI 70 (μ 50) ((up2 μ1 0 3 1) 51) := by
    rw [up2_ne _ _ (by decide), e2, up1_at]
    show cpI 70 ((up2 μ1 0 3 1) 50) _ = _
    rw [m50]
  have hc : ∀ i, i < 70 → up2 μ2 49 3 1 51 i = μ 50 i := fun i hi => by rw [e51, cpI_lt hi]
  refine Inv_but2 hI (fun i a b _ d _ f => eo i a b f d) ?_ ⟨?_, ?_⟩ (Or.inr ⟨?_, rfl, ?_, ?_⟩)
  · show upf (μ2 49) 3 1 8 = _
    rw [upf_ne _ _ (by decide), e2, up1_ne _ _ (by decide)]
    exact congrFun ((up2_ne _ _ (by decide)).trans (f1 49 (by unfold inC; omega))) 8
  · rw [e50]
    exact rep_same (fun i hi => eo i (by unfold inC at hi; omega) (by unfold inC at hi; omega) (by unfold inC at hi; omega) (by unfold inC at hi ⊢; omega)) n8 hI.1.1
  · rw [e50]; exact hI.1.2
  · rw [up2_ne _ _ (by decide), e2, up1_ne _ _ (by decide)]
    rfl
  · refine rep_congr hc n8 (rep_same (fun i hi => ?_) n8 r1)
    rw [up2_ne _ _ (by unfold inC at hi; omega), e2, up1_ne _ _ (by unfold inC at hi; omega)]
    exact up2_ne _ _ (by unfold inC at hi; omega)
  · exact G1_congr hc hI.1.2
set_option maxRecDepth 100000 in
theorem T_undo {μ : Mem} {k1 : Rtn} {K : Int32 → Rtn} {X : Option Rz} (hI : Inv μ) (hm : ∀ v μ1, k1 (some (.int v)) μ1 = S_X5_undo [.ref 49] μ1 (K v)) (hK : ∀ v w μ2, v = w → Inv μ2 → K v (some (.int w)) μ2 = X) : S_X4_undo [.ref 0] μ k1 = X := by
  rcases hI.2.1 with ⟨q1, q2⟩ | ⟨q1, q2, q3, q4⟩
  · refine unl (bfT rfl ?_)
    refine brT q1 ?_
    refine x_tell3 ?_
    refine (hm _ _).trans ?_
    refine unl (bfT rfl ?_)
    refine brT q2 ?_
    refine e_find3 ?_
    exact hK _ _ _ rfl (Inv_tell hI (by decide))
  · have n1 : ¬ μ 0 3 = 0 := by rw [q1]; decide
    have n2 : ¬ μ 49 3 = 0 := by rw [q2]; decide
    refine unl (bfT rfl ?_)
    refine brF n1 ?_
    refine x_bec_13 q3 q4 (fun μ1 r1 f1 => ?_)
    have e49 : μ1 49 = μ 49 := f1 49 (by unfold inC; omega)
    have e51 : μ1 51 = μ 51 := f1 51 (by unfold inC; omega)
    refine (hm _ _).trans ?_
    have n3 : ¬ μ1 49 3 = 0 := by rw [e49]; exact n2
    refine unl (bfT rfl ?_)
    refine brF n3 ?_
    refine e_copy_51_50 (fun μ2 e2 => ?_)
    have e50 : μ2 50 = cpI 70 (μ 51) (μ1 50) := by rw [e2, up1_at, e51]
    have hc : ∀ i, i < 70 → μ2 50 i = μ 51 i := fun i hi => by rw [e50, cpI_lt hi]
    have eo : ∀ i, ¬ i = 50 → ¬ inC 1 i → μ2 i = μ i := fun i a b => by rw [e2, up1_ne _ _ a]; exact f1 i b
    refine hK _ _ _ ?_ ?_
    · show μ1 1 3 = μ2 50 0
      rw [hc 0 (by decide)]
      exact r1.1.1
    · refine Inv_but2 hI (fun i _ _ c _ e _ => eo i e c) ?_ ⟨?_, ?_⟩ (Or.inr ⟨?_, ?_, ?_, ?_⟩)
      · rw [eo 49 (by decide) (by unfold inC; omega)]
      · refine rep_congr hc q4.n8 (rep_same (fun i hi => ?_) q4.n8 r1)
        rw [e2, up1_ne _ _ (by unfold inC at hi; omega)]
      · exact G1_congr hc q4
      · rw [eo 0 (by decide) (by unfold inC; omega)]; exact q1
      · rw [eo 49 (by decide) (by unfold inC; omega)]; exact q2
      · rw [eo 51 (by decide) (by unfold inC; omega)]
        exact rep_same (fun i hi => eo i (by unfold inC at hi; omega) (by unfold inC at hi ⊢; omega)) q4.n8 q3
      · rw [eo 51 (by decide) (by unfold inC; omega)]; exact q4
