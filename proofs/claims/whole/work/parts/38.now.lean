/-! sets, counts -/
def setR (p : Nat → Bool) : Nat → Int32
  | 0 => 0
  | d + 1 => bif p d then setR p d ||| ((1 : Int32) <<< (nI d &&& 31)) else setR p d
theorem or0 (x : Int32) : x ||| 0 = x := by simp
theorem shl0 : ∀ d, d < 8 → (0 : Int32) <<< (nI d &&& 31) = 0 := by decide
def mwB (r : Nat → Int32) (d : Nat) : Bool := decide (r (22 + 6 * d + 4) < r (22 + 6 * d + 3))
def siB (r : Nat → Int32) (d : Nat) : Bool := decide (r (22 + 6 * d + 5) = 1)
set_option maxRecDepth 100000 in
theorem moreWrong_loop {k : Rtn} {X : Option Rz} {μ : Mem} {r : Nat → Int32} (hR : Rep μ 1 r) (hG : G1 r) (hk : k (some (.int (setR (mwB r) (r 1).toNatClampNeg))) μ = X) :
    ∀ (m i f : Nat) (x s : Int32), i + m = (r 1).toNatClampNeg → 40 * m + 40 ≤ f → x = nI i → s = setR (mwB r) i → lockO (oILd 2 5) 0 (runK P_X0_moreWrong f k) k [some (.ref 1), some (.int s), some (.int x)] [] μ = X := by
  intro m
  have h8 := hG.n8
  induction m with
  | zero =>
    intro i f x s hi hf hx hs
    subst hx; subst hs
    obtain ⟨F, rfl⟩ : ∃ F, f = F + 40 := ⟨f - 40, by omega⟩
    have e : i = (r 1).toNatClampNeg := by omega
    refine unO ?_
    have hc : ¬ nI i < μ 1 7 := by
      rw [hR.1.2.1, hG.n1, ← e]
      exact nI_nlt (Nat.le_refl _) (by omega)
    refine brF hc ?_
    rw [e]
    exact hk
  | succ m ih =>
    intro i f x s hi hf hx hs
    subst hx; subst hs
    obtain ⟨F, rfl⟩ : ∃ F, f = F + 40 := ⟨f - 40, by omega⟩
    have hd : dI (nI i) := ⟨i, by omega, rfl⟩
    have e1 : (nI i).toNatClampNeg = i := nI_cl (by omega)
    have r9 := hR.2.2.2 i (by omega)
    refine unO ?_
    have hc : nI i < μ 1 7 := by
      rw [hR.1.2.1, hG.n1]
      exact nI_lt (by omega) (by omega)
    refine brT hc ?_
    refine (@bfT _ _ _ _ _ (in8 hd)) ?_
    refine (@bfT _ _ _ _ _ (kdq_1 hd)) ?_
    refine (@bfT _ _ _ _ _ (in8 hd)) ?_
    refine (@bfT _ _ _ _ _ (kdq_1 hd)) ?_
    have e3 : μ (13 + (nI i).toNatClampNeg) 3 = r (22 + 6 * i + 3) := by rw [e1]; exact r9 3 (by decide)
    have e4 : μ (13 + (nI i).toNatClampNeg) 4 = r (22 + 6 * i + 4) := by rw [e1]; exact r9 4 (by decide)
    by_cases hv : r (22 + 6 * i + 4) < r (22 + 6 * i + 3)
    · refine brT (show μ (13 + (nI i).toNatClampNeg) 4 < μ (13 + (nI i).toNatClampNeg) 3 by rw [e3, e4]; exact hv) ?_
      refine ih (i + 1) _ _ _ (by omega) (by omega) (nI_succ i).symm ?_
      show _ = (bif mwB r i then _ else _)
      unfold mwB
      rw [decide_eq_true hv]; rfl
    · refine brF (show ¬ μ (13 + (nI i).toNatClampNeg) 4 < μ (13 + (nI i).toNatClampNeg) 3 by rw [e3, e4]; exact hv) ?_
      refine ih (i + 1) _ _ _ (by omega) (by omega) (nI_succ i).symm ?_
      show _ = (bif mwB r i then _ else _)
      unfold mwB
      rw [decide_eq_false hv]; rfl
set_option maxRecDepth 100000 in
theorem x_moreWrong {μ : Mem} {k : Rtn} {X : Option Rz} {r : Nat → Int32} (hR : Rep μ 1 r) (hG : G1 r) (hk : k (some (.int (setR (mwB r) (r 1).toNatClampNeg))) μ = X) : S_X0_moreWrong [.ref 1] μ k = X := by
  have h8 := hG.n8
  refine unl (bfT rfl ?_)
  exact moreWrong_loop hR hG hk (r 1).toNatClampNeg 0 _ _ _ (by omega) (fu (by omega) rfl) rfl rfl
set_option maxRecDepth 100000 in
theorem silents_loop {k : Rtn} {X : Option Rz} {μ : Mem} {r : Nat → Int32} (hR : Rep μ 1 r) (hG : G1 r) (hk : k (some (.int (setR (siB r) (r 1).toNatClampNeg))) μ = X) :
    ∀ (m i f : Nat) (x s : Int32), i + m = (r 1).toNatClampNeg → 40 * m + 40 ≤ f → x = nI i → s = setR (siB r) i → lockO (oILd 2 5) 0 (runK P_X0_silents f k) k [some (.ref 1), some (.int s), some (.int x)] [] μ = X := by
  intro m
  have h8 := hG.n8
  induction m with
  | zero =>
    intro i f x s hi hf hx hs
    subst hx; subst hs
    obtain ⟨F, rfl⟩ : ∃ F, f = F + 40 := ⟨f - 40, by omega⟩
    have e : i = (r 1).toNatClampNeg := by omega
    refine unO ?_
    have hc : ¬ nI i < μ 1 7 := by
      rw [hR.1.2.1, hG.n1, ← e]
      exact nI_nlt (Nat.le_refl _) (by omega)
    refine brF hc ?_
    rw [e]
    exact hk
  | succ m ih =>
    intro i f x s hi hf hx hs
    subst hx; subst hs
    obtain ⟨F, rfl⟩ : ∃ F, f = F + 40 := ⟨f - 40, by omega⟩
    have hd : dI (nI i) := ⟨i, by omega, rfl⟩
    have e1 : (nI i).toNatClampNeg = i := nI_cl (by omega)
    have r9 := hR.2.2.2 i (by omega)
    refine unO ?_
    have hc : nI i < μ 1 7 := by
      rw [hR.1.2.1, hG.n1]
      exact nI_lt (by omega) (by omega)
    refine brT hc ?_
    refine (@bfT _ _ _ _ _ (in8 hd)) ?_
    refine (@bfT _ _ _ _ _ (kdq_1 hd)) ?_
    have e3 : μ (13 + (nI i).toNatClampNeg) 5 = r (22 + 6 * i + 5) := by rw [e1]; exact r9 5 (by decide)
    by_cases hv : r (22 + 6 * i + 5) = 1
    · refine brT (show μ (13 + (nI i).toNatClampNeg) 5 = 1 by rw [e3]; exact hv) ?_
      refine ih (i + 1) _ _ _ (by omega) (by omega) (nI_succ i).symm ?_
      show _ = (bif siB r i then _ else _)
      unfold siB
      rw [decide_eq_true hv]; rfl
    · refine brF (show ¬ μ (13 + (nI i).toNatClampNeg) 5 = 1 by rw [e3]; exact hv) ?_
      refine ih (i + 1) _ _ _ (by omega) (by omega) (nI_succ i).symm ?_
      show _ = (bif siB r i then _ else _)
      unfold siB
      rw [decide_eq_false hv]; rfl
set_option maxRecDepth 100000 in
theorem x_silents {μ : Mem} {k : Rtn} {X : Option Rz} {r : Nat → Int32} (hR : Rep μ 1 r) (hG : G1 r) (hk : k (some (.int (setR (siB r) (r 1).toNatClampNeg))) μ = X) : S_X0_silents [.ref 1] μ k = X := by
  have h8 := hG.n8
  refine unl (bfT rfl ?_)
  exact silents_loop hR hG hk (r 1).toNatClampNeg 0 _ _ _ (by omega) (fu (by omega) rfl) rfl rfl
set_option maxRecDepth 100000 in
theorem oftenWrong_loop {k : Rtn} {X : Option Rz} {μ : Mem} (hG : G1 (μ 50)) (hk : k (some (.int (setR (mwB (μ 50)) (μ 50 1).toNatClampNeg))) μ = X) :
    ∀ (m i f : Nat) (x s : Int32), i + m = (μ 50 1).toNatClampNeg → 40 * m + 40 ≤ f → x = nI i → s = setR (mwB (μ 50)) i → lockO (oILd 2 5) 0 (runK P_X5_oftenWrong f k) k [some (.ref 49), some (.int s), some (.int x)] [] μ = X := by
  intro m
  have h8 := hG.n8
  induction m with
  | zero =>
    intro i f x s hi hf hx hs
    subst hx; subst hs
    obtain ⟨F, rfl⟩ : ∃ F, f = F + 40 := ⟨f - 40, by omega⟩
    have e : i = (μ 50 1).toNatClampNeg := by omega
    refine unO ?_
    have hc : ¬ nI i < ra (μ 50) 1 := by
      show ¬ nI i < μ 50 1
      rw [hG.n1, ← e]
      exact nI_nlt (Nat.le_refl _) (by omega)
    refine brF hc ?_
    rw [e]
    exact hk
  | succ m ih =>
    intro i f x s hi hf hx hs
    subst hx; subst hs
    obtain ⟨F, rfl⟩ : ∃ F, f = F + 40 := ⟨f - 40, by omega⟩
    have hi8 : i < 8 := by omega
    have hd : dI (nI i) := ⟨i, hi8, rfl⟩
    refine unO ?_
    have hc : nI i < ra (μ 50) 1 := by
      show nI i < μ 50 1
      rw [hG.n1]
      exact nI_lt (by omega) (by omega)
    refine brT hc ?_
    refine e_dIs hd f3 ?_
    refine e_dIs hd f4 ?_
    have e3 : rD (μ 50) (nI i) 3 = μ 50 (22 + 6 * i + 3) := rD_n _ hi8 (by decide : 3 < 6)
    have e4 : rD (μ 50) (nI i) 4 = μ 50 (22 + 6 * i + 4) := rD_n _ hi8 (by decide : 4 < 6)
    by_cases hv : μ 50 (22 + 6 * i + 4) < μ 50 (22 + 6 * i + 3)
    · refine brT (show rD (μ 50) (nI i) 4 < rD (μ 50) (nI i) 3 by rw [e3, e4]; exact hv) ?_
      refine ih (i + 1) _ _ _ (by omega) (by omega) (nI_succ i).symm ?_
      show _ = (bif mwB (μ 50) i then _ else _)
      unfold mwB
      rw [decide_eq_true hv]; rfl
    · refine brF (show ¬ rD (μ 50) (nI i) 4 < rD (μ 50) (nI i) 3 by rw [e3, e4]; exact hv) ?_
      refine ih (i + 1) _ _ _ (by omega) (by omega) (nI_succ i).symm ?_
      show _ = (bif mwB (μ 50) i then _ else _)
      unfold mwB
      rw [decide_eq_false hv]; exact or0 _
set_option maxRecDepth 100000 in
theorem e_oftenWrong {μ : Mem} {k : Rtn} {X : Option Rz} (hG : G1 (μ 50)) (hk : k (some (.int (setR (mwB (μ 50)) (μ 50 1).toNatClampNeg))) μ = X) : S_X5_oftenWrong [.ref 49] μ k = X := by
  have h8 := hG.n8
  refine unl (bfT rfl ?_)
  exact oftenWrong_loop hG hk (μ 50 1).toNatClampNeg 0 _ _ _ (by omega) (fu (by omega) rfl) rfl rfl
set_option maxRecDepth 100000 in
theorem silent_loop {k : Rtn} {X : Option Rz} {μ : Mem} (hG : G1 (μ 50)) (hk : k (some (.int (setR (siB (μ 50)) (μ 50 1).toNatClampNeg))) μ = X) :
    ∀ (m i f : Nat) (x s : Int32), i + m = (μ 50 1).toNatClampNeg → 40 * m + 40 ≤ f → x = nI i → s = setR (siB (μ 50)) i → lockO (oILd 2 5) 0 (runK P_X5_silent f k) k [some (.ref 49), some (.int s), some (.int x)] [] μ = X := by
  intro m
  have h8 := hG.n8
  induction m with
  | zero =>
    intro i f x s hi hf hx hs
    subst hx; subst hs
    obtain ⟨F, rfl⟩ : ∃ F, f = F + 40 := ⟨f - 40, by omega⟩
    have e : i = (μ 50 1).toNatClampNeg := by omega
    refine unO ?_
    have hc : ¬ nI i < ra (μ 50) 1 := by
      show ¬ nI i < μ 50 1
      rw [hG.n1, ← e]
      exact nI_nlt (Nat.le_refl _) (by omega)
    refine brF hc ?_
    rw [e]
    exact hk
  | succ m ih =>
    intro i f x s hi hf hx hs
    subst hx; subst hs
    obtain ⟨F, rfl⟩ : ∃ F, f = F + 40 := ⟨f - 40, by omega⟩
    have hi8 : i < 8 := by omega
    have hd : dI (nI i) := ⟨i, hi8, rfl⟩
    refine unO ?_
    have hc : nI i < ra (μ 50) 1 := by
      show nI i < μ 50 1
      rw [hG.n1]
      exact nI_lt (by omega) (by omega)
    refine brT hc ?_
    refine e_dIs hd f5 ?_
    have e3 : rD (μ 50) (nI i) 5 = μ 50 (22 + 6 * i + 5) := rD_n _ hi8 (by decide : 5 < 6)
    rw [e3]
    refine ih (i + 1) _ _ _ (by omega) (by omega) (nI_succ i).symm ?_
    show setR (siB (μ 50)) i ||| (μ 50 (22 + 6 * i + 5) <<< (nI i &&& 31)) = (bif siB (μ 50) i then _ else _)
    unfold siB
    obtain ⟨j, hj, ej⟩ := (hG.2.2 i (by omega)).2.2.2.2
    rw [ej]
    rcases (by omega : j = 0 ∨ j = 1) with rfl | rfl
    · rw [show nI 0 = 0 from rfl, shl0 i hi8, or0]; rfl
    · rfl
set_option maxRecDepth 100000 in
theorem e_silent {μ : Mem} {k : Rtn} {X : Option Rz} (hG : G1 (μ 50)) (hk : k (some (.int (setR (siB (μ 50)) (μ 50 1).toNatClampNeg))) μ = X) : S_X5_silent [.ref 49] μ k = X := by
  have h8 := hG.n8
  refine unl (bfT rfl ?_)
  exact silent_loop hG hk (μ 50 1).toNatClampNeg 0 _ _ _ (by omega) (fu (by omega) rfl) rfl rfl
def bstR (r : Nat → Int32) : Nat → Int32
  | 0 => -1
  | d + 1 => if bstR r d < 0 then nI d else if pressesR r (bstR r d) < pressesR r (nI d) then nI d else bstR r d
theorem bstR_or (r : Nat → Int32) : ∀ d, bstR r d = -1 ∧ d = 0 ∨ ∃ j, j < d ∧ bstR r d = nI j := by
  intro d
  induction d with
  | zero => exact Or.inl ⟨rfl, rfl⟩
  | succ d ih =>
    right
    unfold bstR
    split
    · exact ⟨d, by omega, rfl⟩
    · rename_i h
      split
      · exact ⟨d, by omega, rfl⟩
      · rcases ih with ⟨q, -⟩ | ⟨j, hj, q⟩
        · rw [q] at h; exact absurd (by decide) h
        · exact ⟨j, by omega, q⟩
def mstR (r : Nat → Int32) (d : Nat) : Int32 := if bstR r d < 0 then -1 else pressesR r (bstR r d)
set_option maxRecDepth 100000 in
theorem loudest_loop {k : Rtn} {X : Option Rz} {μ : Mem} {r : Nat → Int32} (hR : Rep μ 1 r) (hG : G1 r) (hk : k (some (.int (bstR r (r 1).toNatClampNeg))) μ = X) :
    ∀ (m i f : Nat) (x b s : Int32) (q : Option Value), i + m = (r 1).toNatClampNeg → 40 * m + 40 ≤ f → x = nI i → b = bstR r i → s = mstR r i → lockO (oILd 3 7) 0 (runK P_X0_loudest f k) k [some (.ref 1), some (.int b), some (.int s), some (.int x), q] [] μ = X := by
  intro m
  have h8 := hG.n8
  induction m with
  | zero =>
    intro i f x b s q hi hf hx hb hs
    subst hx; subst hb; subst hs
    obtain ⟨F, rfl⟩ : ∃ F, f = F + 40 := ⟨f - 40, by omega⟩
    have e : i = (r 1).toNatClampNeg := by omega
    refine unO ?_
    have hc : ¬ nI i < μ 1 7 := by
      rw [hR.1.2.1, hG.n1, ← e]
      exact nI_nlt (Nat.le_refl _) (by omega)
    refine brF hc ?_
    rw [e]
    exact hk
  | succ m ih =>
    intro i f x b s q hi hf hx hb hs
    subst hx; subst hb; subst hs
    obtain ⟨F, rfl⟩ : ∃ F, f = F + 40 := ⟨f - 40, by omega⟩
    have hd : dI (nI i) := ⟨i, by omega, rfl⟩
    have hh : hasR r (nI i) := ⟨i, by omega, rfl⟩
    refine unO ?_
    have hc : nI i < μ 1 7 := by
      rw [hR.1.2.1, hG.n1]
      exact nI_lt (by omega) (by omega)
    refine brT hc ?_
    refine (@bfT _ _ _ _ _ (in8 hd)) ?_
    refine (@bfT _ _ _ _ _ (kdq_1 hd)) ?_
    refine x_presses (kdq_1 hd) ?_
    have ep : pressesV (μ (13 + (nI i).toNatClampNeg) 0) (μ (13 + (nI i).toNatClampNeg) 1) (μ (13 + (nI i).toNatClampNeg) 2) (μ 1 1) = pressesR r (nI i) := pressesX_eq hR hG hh
    obtain ⟨pm, hpm, epm⟩ := pressesR_b hG hh
    have st : bstR r (i + 1) = (if mstR r i < pressesR r (nI i) then nI i else bstR r i) ∧ mstR r (i + 1) = (if mstR r i < pressesR r (nI i) then pressesR r (nI i) else mstR r i) := by
      have hb : bstR r (i + 1) = (if bstR r i < 0 then nI i else if pressesR r (bstR r i) < pressesR r (nI i) then nI i else bstR r i) := rfl
      have hi0 : ¬ nI i < 0 := nI_nl (by omega)
      unfold mstR
      rw [hb]
      by_cases z : bstR r i < 0
      · have z2 : (-1 : Int32) < pressesR r (nI i) := by
          rw [epm, Int32.lt_iff_toInt_lt, nI_toInt (by omega)]
          show (-1 : Int) < _
          omega
        rw [if_pos z, if_pos z, if_pos z2, if_pos z2, if_neg hi0]
        exact ⟨rfl, rfl⟩
      · rw [if_neg z, if_neg z]
        by_cases z2 : pressesR r (bstR r i) < pressesR r (nI i)
        · rw [if_pos z2, if_pos z2, if_neg hi0]; exact ⟨rfl, rfl⟩
        · rw [if_neg z2, if_neg z2, if_neg z]; exact ⟨rfl, rfl⟩
    by_cases hv : mstR r i < pressesR r (nI i)
    · refine brT (show mstR r i < pressesV (μ (13 + (nI i).toNatClampNeg) 0) (μ (13 + (nI i).toNatClampNeg) 1) (μ (13 + (nI i).toNatClampNeg) 2) (μ 1 1) by rw [ep]; exact hv) ?_
      rw [if_pos hv, if_pos hv] at st
      exact ih (i + 1) _ _ _ _ _ (by omega) (by omega) (nI_succ i).symm st.1.symm (ep.trans st.2.symm)
    · refine brF (show ¬ mstR r i < pressesV (μ (13 + (nI i).toNatClampNeg) 0) (μ (13 + (nI i).toNatClampNeg) 1) (μ (13 + (nI i).toNatClampNeg) 2) (μ 1 1) by rw [ep]; exact hv) ?_
      rw [if_neg hv, if_neg hv] at st
      exact ih (i + 1) _ _ _ _ _ (by omega) (by omega) (nI_succ i).symm st.1.symm st.2.symm
set_option maxRecDepth 100000 in
theorem x_loudest {μ : Mem} {k : Rtn} {X : Option Rz} {r : Nat → Int32} (hR : Rep μ 1 r) (hG : G1 r) (hk : k (some (.int (bstR r (r 1).toNatClampNeg))) μ = X) : S_X0_loudest [.ref 1] μ k = X := by
  have h8 := hG.n8
  refine unl (bfT rfl ?_)
  exact loudest_loop hR hG hk (r 1).toNatClampNeg 0 _ _ _ _ _ (by omega) (fu (by omega) rfl) rfl rfl rfl
set_option maxRecDepth 100000 in
theorem pressesMost_loop {k : Rtn} {X : Option Rz} {μ : Mem} (hG : G1 (μ 50)) (hk : k (some (.int (bstR (μ 50) (μ 50 1).toNatClampNeg))) μ = X) :
    ∀ (m i f : Nat) (x b : Int32), i + m = (μ 50 1).toNatClampNeg → 40 * m + 40 ≤ f → x = nI i → b = bstR (μ 50) i → lockO (oILd 2 5) 0 (runK P_X5_pressesMost f k) k [some (.ref 49), some (.int b), some (.int x)] [] μ = X := by
  intro m
  have h8 := hG.n8
  induction m with
  | zero =>
    intro i f x b hi hf hx hb
    subst hx; subst hb
    obtain ⟨F, rfl⟩ : ∃ F, f = F + 40 := ⟨f - 40, by omega⟩
    have e : i = (μ 50 1).toNatClampNeg := by omega
    refine unO ?_
    have hc : ¬ nI i < ra (μ 50) 1 := by
      show ¬ nI i < μ 50 1
      rw [hG.n1, ← e]
      exact nI_nlt (Nat.le_refl _) (by omega)
    refine brF hc ?_
    rw [e]
    exact hk
  | succ m ih =>
    intro i f x b hi hf hx hb
    subst hx; subst hb
    obtain ⟨F, rfl⟩ : ∃ F, f = F + 40 := ⟨f - 40, by omega⟩
    have hd : dI (nI i) := ⟨i, by omega, rfl⟩
    refine unO ?_
    have hc : nI i < ra (μ 50) 1 := by
      show nI i < μ 50 1
      rw [hG.n1]
      exact nI_lt (by omega) (by omega)
    refine brT hc ?_
    have hb : bstR (μ 50) (i + 1) = (if bstR (μ 50) i < 0 then nI i else if pressesR (μ 50) (bstR (μ 50) i) < pressesR (μ 50) (nI i) then nI i else bstR (μ 50) i) := rfl
    by_cases z : bstR (μ 50) i < 0
    · refine brT z ?_
      rw [if_pos z] at hb
      exact ih (i + 1) _ _ _ (by omega) (by omega) (nI_succ i).symm hb.symm
    · refine brF z ?_
      have hj : dI (bstR (μ 50) i) := by
        rcases bstR_or (μ 50) i with ⟨q, -⟩ | ⟨j, hj, q⟩
        · rw [q] at z; exact absurd (by decide) z
        · exact ⟨j, by omega, q⟩
      refine e_presses hd ?_
      refine e_presses hj ?_
      rw [if_neg z] at hb
      by_cases z2 : pressesR (μ 50) (bstR (μ 50) i) < pressesR (μ 50) (nI i)
      · refine brT z2 ?_
        rw [if_pos z2] at hb
        exact ih (i + 1) _ _ _ (by omega) (by omega) (nI_succ i).symm hb.symm
      · refine brF z2 ?_
        rw [if_neg z2] at hb
        exact ih (i + 1) _ _ _ (by omega) (by omega) (nI_succ i).symm hb.symm
set_option maxRecDepth 100000 in
theorem e_pressesMost {μ : Mem} {k : Rtn} {X : Option Rz} (hG : G1 (μ 50)) (hk : k (some (.int (bstR (μ 50) (μ 50 1).toNatClampNeg))) μ = X) : S_X5_pressesMost [.ref 49] μ k = X := by
  have h8 := hG.n8
  refine unl (bfT rfl ?_)
  exact pressesMost_loop hG hk (μ 50 1).toNatClampNeg 0 _ _ _ (by omega) (fu (by omega) rfl) rfl rfl
set_option maxRecDepth 100000 in
theorem T_now {μ : Mem} {k1 : Rtn} {K : Int32 → Rtn} {X : Option Rz} (hI : Inv μ) {a : Int32} (hm : ∀ v μ1, k1 (some (.int v)) μ1 = S_X5_now [.ref 49, .int a] μ1 (K v)) (hK : ∀ v w μ2, v = w → Inv μ2 → K v (some (.int w)) μ2 = X) : S_X4_now [.ref 0, .int a] μ k1 = X := by
  by_cases a0 : a = 0
  · subst a0
    refine unl (bfT rfl ?_)
    refine (hm _ _).trans ?_
    refine unl (bfT rfl ?_)
    exact hK _ _ _ hI.1.1.1.1 hI
  by_cases a1 : a = 1
  · subst a1
    refine unl (bfT rfl ?_)
    refine x_wrongs hI.1.1 hI.1.2 ?_
    refine (hm _ _).trans ?_
    refine unl (bfT rfl ?_)
    refine e_sumOf (g := 3) (by decide) rfl hI.1.2 ?_
    exact hK _ _ _ rfl hI
  by_cases a2 : a = 2
  · subst a2
    refine unl (bfT rfl ?_)
    refine (hm _ _).trans ?_
    refine unl (bfT rfl ?_)
    exact hK _ _ _ hI.1.1.1.2.2.2.2.2 hI
  by_cases a3 : a = 3
  · subst a3
    refine unl (bfT rfl ?_)
    refine x_moreWrong hI.1.1 hI.1.2 ?_
    refine (hm _ _).trans ?_
    refine unl (bfT rfl ?_)
    refine e_oftenWrong hI.1.2 ?_
    exact hK _ _ _ rfl hI
  by_cases a4 : a = 4
  · subst a4
    refine unl (bfT rfl ?_)
    refine x_tempers hI.1.1 hI.1.2 ?_
    refine (hm _ _).trans ?_
    refine unl (bfT rfl ?_)
    refine e_sumOf (g := 2) (by decide) rfl hI.1.2 ?_
    exact hK _ _ _ rfl hI
  by_cases a5 : a = 5
  · subst a5
    refine unl (bfT rfl ?_)
    refine x_loudest hI.1.1 hI.1.2 ?_
    refine (hm _ _).trans ?_
    refine unl (bfT rfl ?_)
    refine e_pressesMost hI.1.2 ?_
    exact hK _ _ _ rfl hI
  by_cases a6 : a = 6
  · subst a6
    refine unl (bfT rfl ?_)
    refine x_silents hI.1.1 hI.1.2 ?_
    refine (hm _ _).trans ?_
    refine unl (bfT rfl ?_)
    refine e_silent hI.1.2 ?_
    exact hK _ _ _ rfl hI
  by_cases a7 : a = 7
  · subst a7
    refine unl (bfT rfl ?_)
    refine x_fo_1 hI.1.1 hI.1.2 ?_
    by_cases z : foI (μ 50) = 0
    · refine brT z ?_
      refine (hm _ _).trans ?_
      refine unl (bfT rfl ?_)
      refine e_fallsOut hI.1.2.g0 ?_
      refine brT z ?_
      exact hK _ _ _ rfl hI
    · refine brF z ?_
      refine (hm _ _).trans ?_
      refine unl (bfT rfl ?_)
      refine e_fallsOut hI.1.2.g0 ?_
      refine brF z ?_
      exact hK _ _ _ rfl hI
  refine unl (bfT rfl ?_)
  repeat' (first | refine brF c10 ?_ | refine brT c00 ?_ | refine brF c01 ?_ | refine brT c11 ?_ | refine brT (by assumption) ?_ | refine brF (by assumption) ?_)
  refine x_tell0 ?_; refine (hm _ _).trans ?_; refine unl (bfT rfl ?_); (repeat' (first | refine brF c10 ?_ | refine brT c00 ?_ | refine brF c01 ?_ | refine brT c11 ?_ | refine brT (by assumption) ?_ | refine brF (by assumption) ?_)); refine e_find0 ?_; exact hK _ _ _ rfl (Inv_tell hI (by decide))
