/-! loops: rows copied, sums, drops that go on -/
def cpI (i : Nat) (f g : Nat → Int32) : Nat → Int32 := fun j => if j < i then f j else g j
theorem cpI_s (i : Nat) (f g : Nat → Int32) : upf (cpI i f g) i (f i) = cpI (i + 1) f g := by
  funext j
  unfold cpI
  by_cases e : j = i
  · subst e; rw [upf_at, if_pos (by omega)]
  · rw [upf_ne _ _ e]
    by_cases h : j < i
    · rw [if_pos h, if_pos (by omega)]
    · rw [if_neg h, if_neg (by omega)]
theorem cpI_0 (f g : Nat → Int32) : cpI 0 f g = g := by
  funext j
  unfold cpI
  rw [if_neg (by omega)]
set_option maxRecDepth 100000 in
theorem copy_loop_50_52 {k : Rtn} {X : Option Rz} {μ : Mem} (hk : ∀ μ', μ' = up1 μ 52 (cpI 70 (μ 50) (μ 52)) → k none μ' = X) :
    ∀ (m i f : Nat) (x : Int32) (ν : Mem), i + m = 70 → 20 * m + 20 ≤ f → x = nI i → ν = up1 μ 52 (cpI i (μ 50) (μ 52)) → lockO (oILd 2 3) 0 (runK P_X5_copyRow f k) k [some (.ref 50), some (.ref 52), some (.int x)] [] ν = X := by
  intro m
  induction m with
  | zero =>
    intro i f x ν hi hf hx hν
    subst hx; subst hν
    obtain ⟨F, rfl⟩ : ∃ F, f = F + 20 := ⟨f - 20, by omega⟩
    have e : i = 70 := by omega
    subst e
    refine unO ?_
    exact hk _ rfl
  | succ m ih =>
    intro i f x ν hi hf hx hν
    subst hx; subst hν
    obtain ⟨F, rfl⟩ : ∃ F, f = F + 20 := ⟨f - 20, by omega⟩
    refine unO ?_
    refine brT (nI_lt (a := i) (b := 70) (by omega) (by decide)) ?_
    refine (@bfT _ _ _ _ _ (inB_nI (n := i) (L := 70) (by omega) (by decide))) ?_
    refine (@bfT _ _ _ _ _ (inB_nI (n := i) (L := 70) (by omega) (by decide))) ?_
    refine ih (i + 1) _ _ _ (by omega) (by omega) (nI_succ i).symm ?_
    refine (up2_up1 μ 52 _ _ _).trans ?_
    rw [nI_cl (by omega)]
    show up1 μ 52 (upf (cpI i (μ 50) (μ 52)) i (μ 50 i)) = _
    rw [cpI_s]
set_option maxRecDepth 100000 in
theorem e_copy_50_52 {μ : Mem} {k : Rtn} {X : Option Rz} (hk : ∀ μ', μ' = up1 μ 52 (cpI 70 (μ 50) (μ 52)) → k none μ' = X) : S_X5_copyRow [.ref 50, .ref 52] μ k = X := by
  refine unl (bfT rfl ?_)
  refine copy_loop_50_52 hk 70 0 _ _ _ (by omega) (Nat.le_of_ble_eq_true rfl) rfl ?_
  rw [cpI_0]
  exact (up1_self μ 52).symm
set_option maxRecDepth 100000 in
theorem copy_loop_52_50 {k : Rtn} {X : Option Rz} {μ : Mem} (hk : ∀ μ', μ' = up1 μ 50 (cpI 70 (μ 52) (μ 50)) → k none μ' = X) :
    ∀ (m i f : Nat) (x : Int32) (ν : Mem), i + m = 70 → 20 * m + 20 ≤ f → x = nI i → ν = up1 μ 50 (cpI i (μ 52) (μ 50)) → lockO (oILd 2 3) 0 (runK P_X5_copyRow f k) k [some (.ref 52), some (.ref 50), some (.int x)] [] ν = X := by
  intro m
  induction m with
  | zero =>
    intro i f x ν hi hf hx hν
    subst hx; subst hν
    obtain ⟨F, rfl⟩ : ∃ F, f = F + 20 := ⟨f - 20, by omega⟩
    have e : i = 70 := by omega
    subst e
    refine unO ?_
    exact hk _ rfl
  | succ m ih =>
    intro i f x ν hi hf hx hν
    subst hx; subst hν
    obtain ⟨F, rfl⟩ : ∃ F, f = F + 20 := ⟨f - 20, by omega⟩
    refine unO ?_
    refine brT (nI_lt (a := i) (b := 70) (by omega) (by decide)) ?_
    refine (@bfT _ _ _ _ _ (inB_nI (n := i) (L := 70) (by omega) (by decide))) ?_
    refine (@bfT _ _ _ _ _ (inB_nI (n := i) (L := 70) (by omega) (by decide))) ?_
    refine ih (i + 1) _ _ _ (by omega) (by omega) (nI_succ i).symm ?_
    refine (up2_up1 μ 50 _ _ _).trans ?_
    rw [nI_cl (by omega)]
    show up1 μ 50 (upf (cpI i (μ 52) (μ 50)) i (μ 52 i)) = _
    rw [cpI_s]
set_option maxRecDepth 100000 in
theorem e_copy_52_50 {μ : Mem} {k : Rtn} {X : Option Rz} (hk : ∀ μ', μ' = up1 μ 50 (cpI 70 (μ 52) (μ 50)) → k none μ' = X) : S_X5_copyRow [.ref 52, .ref 50] μ k = X := by
  refine unl (bfT rfl ?_)
  refine copy_loop_52_50 hk 70 0 _ _ _ (by omega) (Nat.le_of_ble_eq_true rfl) rfl ?_
  rw [cpI_0]
  exact (up1_self μ 50).symm
set_option maxRecDepth 100000 in
theorem copy_loop_50_51 {k : Rtn} {X : Option Rz} {μ : Mem} (hk : ∀ μ', μ' = up1 μ 51 (cpI 70 (μ 50) (μ 51)) → k none μ' = X) :
    ∀ (m i f : Nat) (x : Int32) (ν : Mem), i + m = 70 → 20 * m + 20 ≤ f → x = nI i → ν = up1 μ 51 (cpI i (μ 50) (μ 51)) → lockO (oILd 2 3) 0 (runK P_X5_copyRow f k) k [some (.ref 50), some (.ref 51), some (.int x)] [] ν = X := by
  intro m
  induction m with
  | zero =>
    intro i f x ν hi hf hx hν
    subst hx; subst hν
    obtain ⟨F, rfl⟩ : ∃ F, f = F + 20 := ⟨f - 20, by omega⟩
    have e : i = 70 := by omega
    subst e
    refine unO ?_
    exact hk _ rfl
  | succ m ih =>
    intro i f x ν hi hf hx hν
    subst hx; subst hν
    obtain ⟨F, rfl⟩ : ∃ F, f = F + 20 := ⟨f - 20, by omega⟩
    refine unO ?_
    refine brT (nI_lt (a := i) (b := 70) (by omega) (by decide)) ?_
    refine (@bfT _ _ _ _ _ (inB_nI (n := i) (L := 70) (by omega) (by decide))) ?_
    refine (@bfT _ _ _ _ _ (inB_nI (n := i) (L := 70) (by omega) (by decide))) ?_
    refine ih (i + 1) _ _ _ (by omega) (by omega) (nI_succ i).symm ?_
    refine (up2_up1 μ 51 _ _ _).trans ?_
    rw [nI_cl (by omega)]
    show up1 μ 51 (upf (cpI i (μ 50) (μ 51)) i (μ 50 i)) = _
    rw [cpI_s]
set_option maxRecDepth 100000 in
theorem e_copy_50_51 {μ : Mem} {k : Rtn} {X : Option Rz} (hk : ∀ μ', μ' = up1 μ 51 (cpI 70 (μ 50) (μ 51)) → k none μ' = X) : S_X5_copyRow [.ref 50, .ref 51] μ k = X := by
  refine unl (bfT rfl ?_)
  refine copy_loop_50_51 hk 70 0 _ _ _ (by omega) (Nat.le_of_ble_eq_true rfl) rfl ?_
  rw [cpI_0]
  exact (up1_self μ 51).symm
set_option maxRecDepth 100000 in
theorem copy_loop_51_50 {k : Rtn} {X : Option Rz} {μ : Mem} (hk : ∀ μ', μ' = up1 μ 50 (cpI 70 (μ 51) (μ 50)) → k none μ' = X) :
    ∀ (m i f : Nat) (x : Int32) (ν : Mem), i + m = 70 → 20 * m + 20 ≤ f → x = nI i → ν = up1 μ 50 (cpI i (μ 51) (μ 50)) → lockO (oILd 2 3) 0 (runK P_X5_copyRow f k) k [some (.ref 51), some (.ref 50), some (.int x)] [] ν = X := by
  intro m
  induction m with
  | zero =>
    intro i f x ν hi hf hx hν
    subst hx; subst hν
    obtain ⟨F, rfl⟩ : ∃ F, f = F + 20 := ⟨f - 20, by omega⟩
    have e : i = 70 := by omega
    subst e
    refine unO ?_
    exact hk _ rfl
  | succ m ih =>
    intro i f x ν hi hf hx hν
    subst hx; subst hν
    obtain ⟨F, rfl⟩ : ∃ F, f = F + 20 := ⟨f - 20, by omega⟩
    refine unO ?_
    refine brT (nI_lt (a := i) (b := 70) (by omega) (by decide)) ?_
    refine (@bfT _ _ _ _ _ (inB_nI (n := i) (L := 70) (by omega) (by decide))) ?_
    refine (@bfT _ _ _ _ _ (inB_nI (n := i) (L := 70) (by omega) (by decide))) ?_
    refine ih (i + 1) _ _ _ (by omega) (by omega) (nI_succ i).symm ?_
    refine (up2_up1 μ 50 _ _ _).trans ?_
    rw [nI_cl (by omega)]
    show up1 μ 50 (upf (cpI i (μ 51) (μ 50)) i (μ 51 i)) = _
    rw [cpI_s]
set_option maxRecDepth 100000 in
theorem e_copy_51_50 {μ : Mem} {k : Rtn} {X : Option Rz} (hk : ∀ μ', μ' = up1 μ 50 (cpI 70 (μ 51) (μ 50)) → k none μ' = X) : S_X5_copyRow [.ref 51, .ref 50] μ k = X := by
  refine unl (bfT rfl ?_)
  refine copy_loop_51_50 hk 70 0 _ _ _ (by omega) (Nat.le_of_ble_eq_true rfl) rfl ?_
  rw [cpI_0]
  exact (up1_self μ 50).symm
def sumR (r : Nat → Int32) (g : Nat) : Nat → Int32
  | 0 => 0
  | d + 1 => sumR r g d + r (22 + 6 * d + g)
set_option maxRecDepth 100000 in
theorem wrongs_loop {k : Rtn} {X : Option Rz} {μ : Mem} {r : Nat → Int32} (hR : Rep μ 1 r) (hG : G1 r) (hk : k (some (.int (sumR r 3 (r 1).toNatClampNeg))) μ = X) :
    ∀ (m i f : Nat) (x s : Int32), i + m = (r 1).toNatClampNeg → 20 * m + 20 ≤ f → x = nI i → s = sumR r 3 i → lockO (oILd 2 5) 0 (runK P_X0_wrongs f k) k [some (.ref 1), some (.int s), some (.int x)] [] μ = X := by
  intro m
  have h8 := hG.n8
  induction m with
  | zero =>
    intro i f x s hi hf hx hs
    subst hx; subst hs
    obtain ⟨F, rfl⟩ : ∃ F, f = F + 20 := ⟨f - 20, by omega⟩
    have e : i = (r 1).toNatClampNeg := by omega
    refine unO ?_
    have hc : ¬ nI i < μ 1 7 := by
      rw [hR.1.2.1, hG.n1, ← e]
      exact nI_nlt (Nat.le_refl _) (by omega)
    refine brF hc ?_
    rw [e]
    exact hk
  | succ m ih =>
    intro i f x s hi hf hx hs
    subst hx; subst hs
    obtain ⟨F, rfl⟩ : ∃ F, f = F + 20 := ⟨f - 20, by omega⟩
    have hd : dI (nI i) := ⟨i, by omega, rfl⟩
    refine unO ?_
    have hc : nI i < μ 1 7 := by
      rw [hR.1.2.1, hG.n1]
      exact nI_lt (by omega) (by omega)
    refine brT hc ?_
    refine (@bfT _ _ _ _ _ (in8 hd)) ?_
    refine (@bfT _ _ _ _ _ (kdq_1 hd)) ?_
    refine ih (i + 1) _ _ _ (by omega) (by omega) (nI_succ i).symm ?_
    show sumR r 3 i + μ (13 + (nI i).toNatClampNeg) 3 = sumR r 3 i + r (22 + 6 * i + 3)
    rw [nI_cl (by omega)]
    exact congrArg _ (hR.2.2.2 i (by omega) 3 (by decide))
set_option maxRecDepth 100000 in
theorem x_wrongs {μ : Mem} {k : Rtn} {X : Option Rz} {r : Nat → Int32} (hR : Rep μ 1 r) (hG : G1 r) (hk : k (some (.int (sumR r 3 (r 1).toNatClampNeg))) μ = X) : S_X0_wrongs [.ref 1] μ k = X := by
  have h8 := hG.n8
  refine unl (bfT rfl ?_)
  exact wrongs_loop hR hG hk (r 1).toNatClampNeg 0 _ _ _ (by omega) (fu (by omega) rfl) rfl rfl
set_option maxRecDepth 100000 in
theorem tempers_loop {k : Rtn} {X : Option Rz} {μ : Mem} {r : Nat → Int32} (hR : Rep μ 1 r) (hG : G1 r) (hk : k (some (.int (sumR r 2 (r 1).toNatClampNeg))) μ = X) :
    ∀ (m i f : Nat) (x s : Int32), i + m = (r 1).toNatClampNeg → 20 * m + 20 ≤ f → x = nI i → s = sumR r 2 i → lockO (oILd 2 5) 0 (runK P_X0_tempers f k) k [some (.ref 1), some (.int s), some (.int x)] [] μ = X := by
  intro m
  have h8 := hG.n8
  induction m with
  | zero =>
    intro i f x s hi hf hx hs
    subst hx; subst hs
    obtain ⟨F, rfl⟩ : ∃ F, f = F + 20 := ⟨f - 20, by omega⟩
    have e : i = (r 1).toNatClampNeg := by omega
    refine unO ?_
    have hc : ¬ nI i < μ 1 7 := by
      rw [hR.1.2.1, hG.n1, ← e]
      exact nI_nlt (Nat.le_refl _) (by omega)
    refine brF hc ?_
    rw [e]
    exact hk
  | succ m ih =>
    intro i f x s hi hf hx hs
    subst hx; subst hs
    obtain ⟨F, rfl⟩ : ∃ F, f = F + 20 := ⟨f - 20, by omega⟩
    have hd : dI (nI i) := ⟨i, by omega, rfl⟩
    refine unO ?_
    have hc : nI i < μ 1 7 := by
      rw [hR.1.2.1, hG.n1]
      exact nI_lt (by omega) (by omega)
    refine brT hc ?_
    refine (@bfT _ _ _ _ _ (in8 hd)) ?_
    refine (@bfT _ _ _ _ _ (kdq_1 hd)) ?_
    refine ih (i + 1) _ _ _ (by omega) (by omega) (nI_succ i).symm ?_
    show sumR r 2 i + μ (13 + (nI i).toNatClampNeg) 2 = sumR r 2 i + r (22 + 6 * i + 2)
    rw [nI_cl (by omega)]
    exact congrArg _ (hR.2.2.2 i (by omega) 2 (by decide))
set_option maxRecDepth 100000 in
theorem x_tempers {μ : Mem} {k : Rtn} {X : Option Rz} {r : Nat → Int32} (hR : Rep μ 1 r) (hG : G1 r) (hk : k (some (.int (sumR r 2 (r 1).toNatClampNeg))) μ = X) : S_X0_tempers [.ref 1] μ k = X := by
  have h8 := hG.n8
  refine unl (bfT rfl ?_)
  exact tempers_loop hR hG hk (r 1).toNatClampNeg 0 _ _ _ (by omega) (fu (by omega) rfl) rfl rfl
set_option maxRecDepth 100000 in
theorem sumOf_loop {k : Rtn} {X : Option Rz} {μ : Mem} {g : Nat} (hg : g < 6) (hG : G1 (μ 50)) (hk : k (some (.int (sumR (μ 50) g (μ 50 1).toNatClampNeg))) μ = X) :
    ∀ (m i f : Nat) (x s : Int32), i + m = (μ 50 1).toNatClampNeg → 20 * m + 20 ≤ f → x = nI i → s = sumR (μ 50) g i → lockO (oILd 3 5) 0 (runK P_X5_sumOf f k) k [some (.ref 49), some (.int (nI g)), some (.int s), some (.int x)] [] μ = X := by
  intro m
  have h8 := hG.n8
  induction m with
  | zero =>
    intro i f x s hi hf hx hs
    subst hx; subst hs
    obtain ⟨F, rfl⟩ : ∃ F, f = F + 20 := ⟨f - 20, by omega⟩
    have e : i = (μ 50 1).toNatClampNeg := by omega
    refine unO ?_
    have hc : ¬ nI i < ra (μ 50) 1 := by
      show ¬ nI i < μ 50 1
      rw [hG.n1, ← e]
      exact nI_nlt (Nat.le_refl _) (by omega)
    refine brF hc ?_
    rw [e]
    exact hk
  | succ m ih =>
    intro i f x s hi hf hx hs
    subst hx; subst hs
    obtain ⟨F, rfl⟩ : ∃ F, f = F + 20 := ⟨f - 20, by omega⟩
    have hd : dI (nI i) := ⟨i, by omega, rfl⟩
    refine unO ?_
    have hc : nI i < ra (μ 50) 1 := by
      show nI i < μ 50 1
      rw [hG.n1]
      exact nI_lt (by omega) (by omega)
    refine brT hc ?_
    refine e_dIs hd ⟨g, hg, rfl⟩ ?_
    refine ih (i + 1) _ _ _ (by omega) (by omega) (nI_succ i).symm ?_
    show sumR (μ 50) g i + rD (μ 50) (nI i) (nI g) = sumR (μ 50) g i + μ 50 (22 + 6 * i + g)
    rw [rD_n _ (by omega) hg]
set_option maxRecDepth 100000 in
theorem e_sumOf {μ : Mem} {k : Rtn} {X : Option Rz} {g : Nat} {y : Int32} (hg : g < 6) (hy : y = nI g) (hG : G1 (μ 50)) (hk : k (some (.int (sumR (μ 50) g (μ 50 1).toNatClampNeg))) μ = X) : S_X5_sumOf [.ref 49, .int y] μ k = X := by
  have h8 := hG.n8
  subst hy
  refine unl (bfT rfl ?_)
  exact sumOf_loop hg hG hk (μ 50 1).toNatClampNeg 0 _ _ _ (by omega) (fu (by omega) rfl) rfl rfl
def itR : Nat → (Nat → Int32) → Nat → Int32
  | 0, r => r
  | n + 1, r => dropR (itR n r)
theorem G1_it {r : Nat → Int32} (hG : G1 r) (n : Nat) : G1 (itR n r) := by
  induction n with
  | zero => exact hG
  | succ n ih => exact G1_drop ih
theorem it_1 {r : Nat → Int32} (hG : G1 r) (n : Nat) : itR n r 1 = r 1 := by
  induction n with
  | zero => rfl
  | succ n ih => exact (drop_1 (G1_it hG n)).trans ih
set_option maxRecDepth 100000 in
theorem dropsGo_loop {k : Rtn} {X : Option Rz} {μ : Mem} {n : Nat} (hn : n ≤ 200) (hG : G1 (μ 50)) (hk : ∀ μ', μ' = up1 μ 50 (itR n (μ 50)) → k none μ' = X) :
    ∀ (m i f : Nat) (x : Int32) (ν : Mem), i + m = n → 20 * m + 20 ≤ f → x = nI i → ν = up1 μ 50 (itR i (μ 50)) → lockO (oILd 2 3) 0 (runK P_X5_dropsGo f k) k [some (.ref 49), some (.int (nI n)), some (.int x)] [] ν = X := by
  intro m
  induction m with
  | zero =>
    intro i f x ν hi hf hx hν
    subst hx; subst hν
    obtain ⟨F, rfl⟩ : ∃ F, f = F + 20 := ⟨f - 20, by omega⟩
    have e : i = n := by omega
    subst e
    refine unO ?_
    refine brF (nI_nlt (Nat.le_refl i) (by omega)) ?_
    exact hk _ rfl
  | succ m ih =>
    intro i f x ν hi hf hx hν
    subst hx; subst hν
    obtain ⟨F, rfl⟩ : ∃ F, f = F + 20 := ⟨f - 20, by omega⟩
    refine unO ?_
    refine brT (nI_lt (a := i) (b := n) (by omega) (by omega)) ?_
    refine e_drop (by rw [up1_at]; exact (G1_it hG i).g0) (fun μ1 e1 => ?_)
    refine ih (i + 1) _ _ _ (by omega) (by omega) (nI_succ i).symm ?_
    rw [e1, up1_same, up1_at]
    rfl
set_option maxRecDepth 100000 in
theorem e_dropsGo {μ : Mem} {k : Rtn} {X : Option Rz} {n : Nat} {y : Int32} (hn : n ≤ 200) (hy : y = nI n) (hG : G1 (μ 50)) (hk : ∀ μ', μ' = up1 μ 50 (itR n (μ 50)) → k none μ' = X) : S_X5_dropsGo [.ref 49, .int y] μ k = X := by
  subst hy
  refine unl (bfT rfl ?_)
  refine dropsGo_loop hn hG hk n 0 _ _ _ (by omega) (Nat.le_trans (show 20 * n + 20 ≤ 4020 by omega) (Nat.le_of_ble_eq_true rfl)) rfl ?_
  exact (up1_self μ 50).symm
set_option maxRecDepth 100000 in
theorem go_loop {k : Rtn} {X : Option Rz} {μ : Mem} {r : Nat → Int32} {n : Nat} (hn : n ≤ 60) (hR : Rep μ 1 r) (hG : G1 r) (hk : ∀ μ', Rep μ' 1 (itR n r) → Fr 1 μ μ' → k (some (.int (sumR (itR n r) 3 (r 1).toNatClampNeg))) μ' = X) :
    ∀ (m i f : Nat) (x : Int32) (ν : Mem), i + m = n → 20 * m + 20 ≤ f → x = nI i → Rep ν 1 (itR i r) → Fr 1 μ ν → lockO (oILd 2 41) 0 (runK P_X4_go f k) k [some (.ref 0), some (.int (nI n)), some (.int x)] [] ν = X := by
  intro m
  induction m with
  | zero =>
    intro i f x ν hi hf hx hQ hF
    subst hx
    obtain ⟨F, rfl⟩ : ∃ F, f = F + 20 := ⟨f - 20, by omega⟩
    have e : i = n := by omega
    subst e
    refine unO ?_
    refine brF (nI_nlt (Nat.le_refl i) (by omega)) ?_
    refine x_wrongs hQ (G1_it hG i) ?_
    rw [it_1 hG i]
    exact hk _ hQ hF
  | succ m ih =>
    intro i f x ν hi hf hx hQ hF
    subst hx
    obtain ⟨F, rfl⟩ : ∃ F, f = F + 20 := ⟨f - 20, by omega⟩
    refine unO ?_
    refine brT (nI_lt (a := i) (b := n) (by omega) (by omega)) ?_
    refine x_drop_1 hQ (G1_it hG i) (fun μ1 g1 g2 => ?_)
    exact ih (i + 1) _ _ _ (by omega) (by omega) (nI_succ i).symm g1 (hF.tr g2)
set_option maxRecDepth 100000 in
theorem T_go {μ : Mem} {k1 : Rtn} {K : Int32 → Rtn} {X : Option Rz} (hI : Inv μ) {a : Int32} (hm : ∀ v μ1, k1 (some (.int v)) μ1 = S_X5_go [.ref 49, .int a] μ1 (K v)) (hK : ∀ v w μ2, v = w → Inv μ2 → K v (some (.int w)) μ2 = X) : S_X4_go [.ref 0, .int a] μ k1 = X := by
  have ed : μ 1 3 = μ 50 0 := hI.1.1.1.1
  by_cases g1 : a < 1
  · refine unl (bfT rfl ?_)
    repeat' (first | refine brT (by assumption) ?_ | refine brF (by assumption) ?_ | refine br (fun q => ?_) (fun q => ?_))
    refine x_tell0 ?_; refine (hm _ _).trans ?_; refine unl (bfT rfl ?_); (repeat' (first | refine brF c10 ?_ | refine brT c00 ?_ | refine brF c01 ?_ | refine brT c11 ?_ | refine brT (by assumption) ?_ | refine brF (by assumption) ?_)); refine e_find0 ?_; exact hK _ _ _ rfl (Inv_tell hI (by decide))
  by_cases g2 : 60 < a
  · refine unl (bfT rfl ?_)
    repeat' (first | refine brT (by assumption) ?_ | refine brF (by assumption) ?_ | refine br (fun q => ?_) (fun q => ?_))
    refine x_tell0 ?_; refine (hm _ _).trans ?_; refine unl (bfT rfl ?_); (repeat' (first | refine brF c10 ?_ | refine brT c00 ?_ | refine brF c01 ?_ | refine brT c11 ?_ | refine brT (by assumption) ?_ | refine brF (by assumption) ?_)); refine e_find0 ?_; exact hK _ _ _ rfl (Inv_tell hI (by decide))
  by_cases g3 : 99999 < μ 50 0 + a
  · have g4 : 99999 < μ 1 3 + a := by rw [ed]; exact g3
    refine unl (bfT rfl ?_)
    repeat' (first | refine brT (by assumption) ?_ | refine brF (by assumption) ?_ | refine br (fun q => ?_) (fun q => ?_))
    refine x_tell4 ?_; refine (hm _ _).trans ?_; refine unl (bfT rfl ?_); (repeat' (first | refine brF c10 ?_ | refine brT c00 ?_ | refine brF c01 ?_ | refine brT c11 ?_ | refine brT (by assumption) ?_ | refine brF (by assumption) ?_)); refine e_find4 ?_; exact hK _ _ _ rfl (Inv_tell hI (by decide))
  · have g4 : ¬ 99999 < μ 1 3 + a := by rw [ed]; exact g3
    have a0 : ¬ a < 0 := fun q => g1 (Int32.lt_of_lt_of_le q (by decide))
    obtain ⟨n, hn, rfl⟩ := nlt_VB (n := 60) (by decide) a0 g2
    refine unl (bfT rfl ?_)
    repeat' (first | refine brT (by assumption) ?_ | refine brF (by assumption) ?_ | refine br (fun q => ?_) (fun q => ?_))
    refine go_loop hn hI.1.1 hI.1.2 (fun μ1 r1 f1 => ?_) n 0 _ _ _ (by omega) (Nat.le_trans (show 20 * n + 20 ≤ 2000 by omega) (Nat.le_of_ble_eq_true rfl)) rfl hI.1.1 Fr.rf
    have e50 : μ1 50 = μ 50 := f1 50 (by unfold inC; omega)
    refine (hm _ _).trans ?_
    have g3' : ¬ 99999 < μ1 50 0 + nI n := by rw [e50]; exact g3
    refine unl (bfT rfl ?_)
    repeat' (first | refine brF c10 ?_ | refine brT c00 ?_ | refine brF c01 ?_ | refine brT c11 ?_ | refine brT (by assumption) ?_ | refine brF (by assumption) ?_)
    refine e_dropsGo (by omega) rfl (by rw [e50]; exact hI.1.2) (fun μ2 e2 => ?_)
    have e3 : μ2 50 = itR n (μ 50) := by rw [e2, up1_at, e50]
    refine e_sumOf (g := 3) (by decide) rfl (by rw [e3]; exact G1_it hI.1.2 n) ?_
    refine hK _ _ _ ?_ ?_
    · rw [e3, it_1 hI.1.2 n]
    · refine Inv_court hI ?_ ⟨?_, ?_⟩
      · rw [e2]; exact (FrA.c1 f1).tr FrA.up50
      · rw [e3, e2]
        exact rep_same (fun i hi => up1_ne _ _ (by unfold inC at hi; omega)) (G1_it hI.1.2 n).n8 r1
      · rw [e3]; exact G1_it hI.1.2 n
