/-! ahead, stands, calm -/
set_option maxRecDepth 100000 in
theorem ahead_loop {k : Rtn} {X : Option Rz} {μ : Mem} {d w : Int32} {r : Nat → Int32} {n : Nat} (hn : n ≤ 100) (hd : hasR r d) (hw : VB w 10) (hG : G1 r) (hk : ∀ ν, Fr 2 μ ν → k (some (.int (toldR (itR n r) d w))) ν = X) :
    ∀ (m i f : Nat) (x : Int32) (ν : Mem), i + m = n → 40 * m + 40 ≤ f → x = nI i → Rep ν 2 (itR i r) → Fr 2 μ ν → lockO (oILd 5 71) 0 (runK P_X4_ahead f k) k [some (.ref 0), some (.int d), some (.int w), some (.int (nI n)), some (.int 1), some (.int x)] [] ν = X := by
  have hx := hd.dI hG
  intro m
  induction m with
  | zero =>
    intro i f x ν hi hf hxx hR hF
    have ei : i = n := by omega
    subst hxx; subst ei
    obtain ⟨F, rfl⟩ : ∃ F, f = F + 40 := ⟨f - 40, by omega⟩
    have hdi := hasR_it hG hd i
    refine unO ?_
    refine brF (nI_nlt (Nat.le_refl i) (by omega)) ?_
    refine (@bfT _ _ _ _ _ (in8 hx)) ?_
    refine (@bfT _ _ _ _ _ (kdq_2 hx)) ?_
    refine x_tells (kdq_2 hx) (hasR.kd hR (G1_it hG i) hdi) ?_
    have et := tells_eq hR (G1_it hG i) hdi hw
    rw [← et] at hk
    exact hk _ hF
  | succ m ih =>
    intro i f x ν hi hf hxx hR hF
    subst hxx
    obtain ⟨F, rfl⟩ : ∃ F, f = F + 40 := ⟨f - 40, by omega⟩
    refine unO ?_
    refine brT (nI_lt (a := i) (b := n) (by omega) (by omega)) ?_
    refine x_drop_2 hR (G1_it hG i) (fun μ1 r1 f1 => ?_)
    exact ih (i + 1) _ _ _ (by omega) (by omega) (nI_succ i).symm r1 (hF.tr f1)
theorem edge_iff {x y : Int32} (hx : VB x 9999) (hy : VB y 9999) : (decide (x < y + 1)) = !(decide (y < x)) := by
  obtain ⟨a, ha, rfl⟩ := hx
  obtain ⟨b, hb, rfl⟩ := hy
  rw [nI_1]
  by_cases h : b < a
  · rw [decide_eq_false (show ¬ nI a < nI (b + 1) from nI_nlt (by omega) (by omega)), decide_eq_true (show nI b < nI a from nI_lt h (by omega))]; rfl
  · rw [decide_eq_true (show nI a < nI (b + 1) from nI_lt (by omega) (by omega)), decide_eq_false (show ¬ nI b < nI a from nI_nlt (by omega) (by omega))]; rfl
set_option maxRecDepth 100000 in
theorem stands_loop {k : Rtn} {X : Option Rz} {μ : Mem} {r : Nat → Int32} (hR0 : Rep μ 1 r) (hG : G1 r) (hk : ∀ ν j, fsR (fun q => !(decide (ra q 5 < ra r 5 + 1))) r 200 0 = some j → Fr 2 μ ν → k (some (.int (nI j))) ν = X) (hn : ∀ ν, fsR (fun q => !(decide (ra q 5 < ra r 5 + 1))) r 200 0 = none → Fr 2 μ ν → k (some (.int (-1000004))) (telM ν 3) = X) :
    ∀ (m i f : Nat) (x : Int32) (ν : Mem), i + m = 199 → 40 * m + 40 ≤ f → x = nI (i + 1) → Rep ν 2 (itR i r) → Fr 2 μ ν → fsR (fun q => !(decide (ra q 5 < ra r 5 + 1))) r 200 0 = fsR (fun q => !(decide (ra q 5 < ra r 5 + 1))) r m (i + 1) → lockO (oILd 1 14) 0 (runK P_X4_stands f k) k [some (.ref 0), some (.int x)] [] ν = X := by
  intro m
  induction m with
  | zero =>
    intro i f x ν hi hf hxx hR hF hs
    have ei : i = 199 := by omega
    subst hxx; subst ei
    obtain ⟨F, rfl⟩ : ∃ F, f = F + 40 := ⟨f - 40, by omega⟩
    refine unO ?_
    refine x_drop_2 hR (G1_it hG 199) (fun μ1 r1 f1 => ?_)
    have e2 : μ1 2 2 = itR 200 r 5 := r1.1.2.2.2.2.2
    have e1 : μ1 1 2 = r 5 := by
      rw [(hF.tr f1) 1 (by unfold inC; omega)]
      exact hR0.1.2.2.2.2.2
    have hb := edge_iff (G1_it hG 200).1.2.2.2 hG.1.2.2.2
    by_cases hv : r 5 < itR 200 r 5
    · refine brT (show μ1 1 2 < μ1 2 2 by rw [e1, e2]; exact hv) ?_
      refine hk _ _ (hs.trans (fsR_t ?_)) (hF.tr f1)
      show (!(decide (itR 200 r 5 < r 5 + 1))) = true
      rw [hb, decide_eq_true hv]; rfl
    · refine brF (show ¬ μ1 1 2 < μ1 2 2 by rw [e1, e2]; exact hv) ?_
      refine unO ?_
      refine x_tell3 ?_
      refine hn _ (hs.trans (fsR_0 ?_)) (hF.tr f1)
      show (!(decide (itR 200 r 5 < r 5 + 1))) = false
      rw [hb, decide_eq_false hv]; rfl
  | succ m ih =>
    intro i f x ν hi hf hxx hR hF hs
    subst hxx
    obtain ⟨F, rfl⟩ : ∃ F, f = F + 40 := ⟨f - 40, by omega⟩
    refine unO ?_
    refine brF (nI_nlt (a := 200) (b := i + 1) (by omega) (by decide)) ?_
    refine x_drop_2 hR (G1_it hG i) (fun μ1 r1 f1 => ?_)
    have e2 : μ1 2 2 = itR (i + 1) r 5 := r1.1.2.2.2.2.2
    have e1 : μ1 1 2 = r 5 := by
      rw [(hF.tr f1) 1 (by unfold inC; omega)]
      exact hR0.1.2.2.2.2.2
    have hb := edge_iff (G1_it hG (i + 1)).1.2.2.2 hG.1.2.2.2
    by_cases hv : r 5 < itR (i + 1) r 5
    · refine brT (show μ1 1 2 < μ1 2 2 by rw [e1, e2]; exact hv) ?_
      refine hk _ _ (hs.trans (fsR_t ?_)) (hF.tr f1)
      show (!(decide (itR (i + 1) r 5 < r 5 + 1))) = true
      rw [hb, decide_eq_true hv]; rfl
    · refine brF (show ¬ μ1 1 2 < μ1 2 2 by rw [e1, e2]; exact hv) ?_
      refine ih (i + 1) _ _ _ (by omega) (by omega) (nI_succ (i + 1)).symm r1 (hF.tr f1) (hs.trans (fsR_s ?_))
      show (!(decide (itR (i + 1) r 5 < r 5 + 1))) = false
      rw [hb, decide_eq_false hv]; rfl
set_option maxRecDepth 100000 in
theorem T_stands {μ : Mem} {k1 : Rtn} {K : Int32 → Rtn} {X : Option Rz} (hI : Inv μ) (hm : ∀ z μ1, k1 (some (.int z)) μ1 = S_X5_stands [.ref 49] μ1 (K z)) (hK : ∀ v w μ2, v = w → Inv μ2 → K v (some (.int w)) μ2 = X) : S_X4_stands [.ref 0] μ k1 = X := by
  have e50 : ∀ ν : Mem, Fr 2 μ ν → ν 50 = μ 50 := fun ν f => f 50 (by unfold inC; omega)
  have h0 : fsR (fun q => !(decide (ra q 5 < ra (μ 50) 5 + 1))) (μ 50) 200 0 = fsR (fun q => !(decide (ra q 5 < ra (μ 50) 5 + 1))) (μ 50) 199 1 := by
    refine fsR_s ?_
    show (!(decide (μ 50 5 < μ 50 5 + 1))) = false
    rw [edge_iff hI.1.2.1.2.2.2 hI.1.2.1.2.2.2, decide_eq_false Int32.lt_irrefl]
    rfl
  have bec : ∀ (k2 : Rtn), (∀ ν, Rep ν 2 (μ 50) → Fr 2 μ ν → k2 none ν = X) → S_X0_become [.ref 2, .ref 1] μ k2 = X := fun k2 hh => x_bec_21 hI.1.1 hI.1.2 hh
  refine unl (bfT rfl ?_)
  refine bec _ (fun ν rv fv => ?_)
  refine stands_loop hI.1.1 hI.1.2 (fun ν2 j hj f2 => ?_) (fun ν2 hj f2 => ?_) 199 0 _ _ _ (by omega) (Nat.le_of_ble_eq_true rfl) rfl rv fv h0
  · refine (hm _ _).trans ?_
    have e := e50 ν2 f2
    refine unl (bfT rfl ?_)
    refine e_dropsTo (by decide) (by rw [e]; exact hI.1.2) (fun ν3 w hw hB => ?_)
    have hw2 : w = (match fsR (fun q => !(decide (ra q 5 < ra (ν2 50) 5 + 1))) (ν2 50) 200 0 with | some j => nI j | none => -1) := hw
    rw [e, hj] at hw2
    have hj2 := fsR_le 200 0 j hj
    have nn : ¬ w < 0 := by rw [hw2]; exact nI_nl (by omega)
    refine brF nn ?_
    exact hK _ _ _ hw2.symm (hB.inv hI f2)
  · refine (hm _ _).trans ?_
    have e : (telM ν2 3) 50 = μ 50 := e50 ν2 f2
    refine unl (bfT rfl ?_)
    refine e_dropsTo (by decide) (by rw [e]; exact hI.1.2) (fun ν3 w hw hB => ?_)
    have hw2 : w = (match fsR (fun q => !(decide (ra q 5 < ra ((telM ν2 3) 50) 5 + 1))) ((telM ν2 3) 50) 200 0 with | some j => nI j | none => -1) := hw
    rw [e, hj] at hw2
    have nn : w < 0 := by rw [hw2]; decide
    refine brT nn ?_
    refine e_find3 ?_
    exact hK _ _ _ rfl (Inv_tb hI f2 hB (by decide))
set_option maxRecDepth 100000 in
theorem calmX_loop {k : Rtn} {X : Option Rz} {μ : Mem} {d v : Int32} {r : Nat → Int32} (hd : hasR r d) (hG : G1 r) (hk : ∀ ν j, fsR (fun q => !(decide (v < rD q d 2))) r 200 0 = some j → Fr 2 μ ν → k (some (.int (nI j))) ν = X) (hn : ∀ ν, fsR (fun q => !(decide (v < rD q d 2))) r 200 0 = none → Fr 2 μ ν → k (some (.int (-1000004))) (telM ν 3) = X) :
    ∀ (m i f : Nat) (x : Int32) (ν : Mem), i + m = 200 → 60 * m + 60 ≤ f → x = nI i → Rep ν 2 (itR i r) → Fr 2 μ ν → fsR (fun q => !(decide (v < rD q d 2))) r 200 0 = fsR (fun q => !(decide (v < rD q d 2))) r m i → lockO (oILd 3 42) 0 (runK P_X4_calm f k) k [some (.ref 0), some (.int d), some (.int v), some (.int x)] [] ν = X := by
  have hx := hd.dI hG
  intro m
  induction m with
  | zero =>
    intro i f x ν hi hf hxx hR hF hs
    have ei : i = 200 := by omega
    subst hxx; subst ei
    obtain ⟨F, rfl⟩ : ∃ F, f = F + 60 := ⟨f - 60, by omega⟩
    have hdi := hasR_it hG hd 200
    refine unO ?_
    refine (@bfT _ _ _ _ _ (in8 hx)) ?_
    refine (@bfT _ _ _ _ _ (kdq_2 hx)) ?_
    have et : ν (21 + d.toNatClampNeg) 2 = rD (itR 200 r) d 2 := rep_at hR (G1_it hG 200) hdi (by decide : 2 < 6)
    by_cases hv : v < rD (itR 200 r) d 2
    · refine brT (show v < ν (21 + d.toNatClampNeg) 2 by rw [et]; exact hv) ?_
      refine x_drop_2 hR (G1_it hG 200) (fun μ1 r1 f1 => ?_)
      refine unO ?_
      refine x_tell3 ?_
      exact hn _ (hs.trans (fsR_0 (by simp [hv]))) (hF.tr f1)
    · refine brF (show ¬ v < ν (21 + d.toNatClampNeg) 2 by rw [et]; exact hv) ?_
      exact hk _ _ (hs.trans (fsR_t (by simp [hv]))) hF
  | succ m ih =>
    intro i f x ν hi hf hxx hR hF hs
    subst hxx
    obtain ⟨F, rfl⟩ : ∃ F, f = F + 60 := ⟨f - 60, by omega⟩
    have hdi := hasR_it hG hd i
    refine unO ?_
    refine brF (nI_nlt (a := 200) (b := i) (by omega) (by decide)) ?_
    refine (@bfT _ _ _ _ _ (in8 hx)) ?_
    refine (@bfT _ _ _ _ _ (kdq_2 hx)) ?_
    have et : ν (21 + d.toNatClampNeg) 2 = rD (itR i r) d 2 := rep_at hR (G1_it hG i) hdi (by decide : 2 < 6)
    by_cases hv : v < rD (itR i r) d 2
    · refine brT (show v < ν (21 + d.toNatClampNeg) 2 by rw [et]; exact hv) ?_
      refine x_drop_2 hR (G1_it hG i) (fun μ1 r1 f1 => ?_)
      exact ih (i + 1) _ _ _ (by omega) (by omega) (nI_succ i).symm r1 (hF.tr f1) (hs.trans (fsR_s (by simp [hv])))
    · refine brF (show ¬ v < ν (21 + d.toNatClampNeg) 2 by rw [et]; exact hv) ?_
      exact hk _ _ (hs.trans (fsR_t (by simp [hv]))) hF
set_option maxRecDepth 100000 in
theorem calmM_loop {k : Rtn} {X : Option Rz} {μ : Mem} {d v : Int32} {r : Nat → Int32} (hd : dI d) (hG : G1 r) (hk : ∀ ν j, fsR (fun q => !(decide (v < rD q d 2))) r 200 0 = some j → Back μ ν → k (some (.int (nI j))) ν = X) (hn : ∀ ν, fsR (fun q => !(decide (v < rD q d 2))) r 200 0 = none → Back μ ν → k (some (.int (-1000004))) (fndM ν 3) = X) :
    ∀ (m i f : Nat) (x : Int32) (ν : Mem), i + m = 200 → 30 * m + 30 ≤ f → x = nI i → ν = up1 (up1 μ 52 (cpI 70 (μ 50) (μ 52))) 50 (itR i r) → fsR (fun q => !(decide (v < rD q d 2))) r 200 0 = fsR (fun q => !(decide (v < rD q d 2))) r m i → lockO (oILd 3 39) 0 (runK P_X5_calm f k) k [some (.ref 49), some (.int d), some (.int v), some (.int x)] [] ν = X := by
  have fin : ∀ (i : Nat) (ν μ2 : Mem), i ≤ 200 → ν = up1 (up1 μ 52 (cpI 70 (μ 50) (μ 52))) 50 (itR i r) → μ2 = up1 ν 50 (cpI 70 (ν 52) (ν 50)) → Back μ μ2 := fun i ν μ2 _ e1 e2 => by
    rw [e1] at e2
    exact bk_of e2
  intro m
  induction m with
  | zero =>
    intro i f x ν hi hf hx hν hs
    have ei : i = 200 := by omega
    subst hx; subst hν; subst ei
    obtain ⟨F, rfl⟩ : ∃ F, f = F + 30 := ⟨f - 30, by omega⟩
    refine unO ?_
    refine e_dIs hd f2 ?_
    have eq : rD ((up1 (up1 μ 52 (cpI 70 (μ 50) (μ 52))) 50 (itR 200 r)) 50) d 2 = rD (itR 200 r) d 2 := by rw [up1_at]
    rw [eq]
    by_cases hv : v < rD (itR 200 r) d 2
    · refine brT hv ?_
      refine e_putBack (fun μ2 e2 => ?_)
      refine e_find3 ?_
      exact hn _ (hs.trans (fsR_0 (by simp [hv]))) (bk_of e2)
    · refine brF hv ?_
      refine e_putBack (fun μ2 e2 => ?_)
      exact hk _ 200 (hs.trans (fsR_t (by simp [hv]))) (bk_of e2)
  | succ m ih =>
    intro i f x ν hi hf hx hν hs
    subst hx; subst hν
    obtain ⟨F, rfl⟩ : ∃ F, f = F + 30 := ⟨f - 30, by omega⟩
    refine unO ?_
    refine brT (nI_lt (a := i) (b := 200) (by omega) (by decide)) ?_
    refine e_dIs hd f2 ?_
    have eq : rD ((up1 (up1 μ 52 (cpI 70 (μ 50) (μ 52))) 50 (itR i r)) 50) d 2 = rD (itR i r) d 2 := by rw [up1_at]
    rw [eq]
    by_cases hv : v < rD (itR i r) d 2
    · refine brT hv ?_
      refine e_drop (by rw [up1_at]; exact (G1_it hG i).g0) (fun μ1 e1 => ?_)
      refine ih (i + 1) _ _ _ (by omega) (by omega) (nI_succ i).symm ?_ ?_
      · rw [e1, up1_same, up1_at]; rfl
      · rw [hs, fsR_s (by simp [hv])]
    · refine brF hv ?_
      refine e_dIs hd f2 ?_
      rw [eq]
      refine brF hv ?_
      refine e_putBack (fun μ2 e2 => ?_)
      have nn : ¬ nI i < 0 := nI_nl (by omega)
      refine brF nn ?_
      exact hk _ _ (hs.trans (fsR_t (by simp [hv]))) (bk_of e2)
set_option maxRecDepth 100000 in
theorem T_calm {μ : Mem} {k1 : Rtn} {K : Int32 → Rtn} {X : Option Rz} (hI : Inv μ) {d v : Int32} (hm : ∀ z μ1, k1 (some (.int z)) μ1 = S_X5_calm [.ref 49, .int d, .int v] μ1 (K z)) (hK : ∀ v w μ2, v = w → Inv μ2 → K v (some (.int w)) μ2 = X) : S_X4_calm [.ref 0, .int d, .int v] μ k1 = X := by
  have e50 : ∀ ν : Mem, Fr 2 μ ν → ν 50 = μ 50 := fun ν f => f 50 (by unfold inC; omega)
  have bec : ∀ (k2 : Rtn), (∀ ν, Rep ν 2 (μ 50) → Fr 2 μ ν → k2 none ν = X) → S_X0_become [.ref 2, .ref 1] μ k2 = X := fun k2 hh => x_bec_21 hI.1.1 hI.1.2 hh
  have st : ∀ ν μ1 : Mem, ν 50 = μ 50 → μ1 = up1 ν 52 (cpI 70 (ν 50) (ν 52)) → μ1 = up1 (up1 ν 52 (cpI 70 (ν 50) (ν 52))) 50 (itR 0 (μ 50)) := by
    intro ν μ1 e e1
    rw [e1]
    funext i
    by_cases q : i = 50
    · subst q; rw [up1_at, up1_ne _ _ (by decide)]; exact e
    · rw [up1_ne _ _ q]
  rcases has_cases hI d with ⟨hd, g1, g2, g3⟩ | g1 | ⟨g1, g2, g3⟩
  · by_cases v1 : v < 0
    · refine unl (bfT rfl ?_)
      repeat' (first | refine brT (by assumption) ?_ | refine brF (by assumption) ?_ | refine br (fun q => ?_) (fun q => ?_))
      refine x_tell0 ?_; refine (hm _ _).trans ?_; refine unl (bfT rfl ?_); (repeat' (first | refine brF c10 ?_ | refine brT c00 ?_ | refine brF c01 ?_ | refine brT c11 ?_ | refine brT (by assumption) ?_ | refine brF (by assumption) ?_)); refine e_find0 ?_; exact hK _ _ _ rfl (Inv_tell hI (by decide))
    by_cases v2 : 99 < v
    · refine unl (bfT rfl ?_)
      repeat' (first | refine brT (by assumption) ?_ | refine brF (by assumption) ?_ | refine br (fun q => ?_) (fun q => ?_))
      refine x_tell0 ?_; refine (hm _ _).trans ?_; refine unl (bfT rfl ?_); (repeat' (first | refine brF c10 ?_ | refine brT c00 ?_ | refine brF c01 ?_ | refine brT c11 ?_ | refine brT (by assumption) ?_ | refine brF (by assumption) ?_)); refine e_find0 ?_; exact hK _ _ _ rfl (Inv_tell hI (by decide))
    have hx := hd.dI hI.1.2
    refine unl (bfT rfl ?_)
    repeat' (first | refine brF c10 ?_ | refine brT c00 ?_ | refine brF c01 ?_ | refine brT c11 ?_ | refine brT (by assumption) ?_ | refine brF (by assumption) ?_)
    refine bec _ (fun ν rv fv => ?_)
    refine calmX_loop (v := v) hd hI.1.2 (fun ν2 j hj f2 => ?_) (fun ν2 hj f2 => ?_) 200 0 _ _ _ (by omega) (Nat.le_of_ble_eq_true rfl) rfl rv fv rfl
    · refine (hm _ _).trans ?_
      have e := e50 ν2 f2
      have g4 : ¬ ν2 50 1 - 1 < d := by rw [e]; exact g3
      refine unl (bfT rfl ?_)
      repeat' (first | refine brF c10 ?_ | refine brT c00 ?_ | refine brF c01 ?_ | refine brT c11 ?_ | refine brT (by assumption) ?_ | refine brF (by assumption) ?_)
      refine e_copy_50_52 (fun μ1 e1 => ?_)
      refine calmM_loop (μ := ν2) (v := v) hx hI.1.2 (fun ν3 j3 h3 hB => ?_) (fun ν3 h3 hB => by rw [hj] at h3; cases h3) 200 0 _ _ _ (by omega) (Nat.le_of_ble_eq_true rfl) rfl (st ν2 μ1 e e1) rfl
      rw [hj] at h3
      cases h3
      exact hK _ _ _ rfl (hB.inv hI f2)
    · refine (hm _ _).trans ?_
      have e : (telM ν2 3) 50 = μ 50 := e50 ν2 f2
      have g4 : ¬ (telM ν2 3) 50 1 - 1 < d := by rw [e]; exact g3
      refine unl (bfT rfl ?_)
      repeat' (first | refine brF c10 ?_ | refine brT c00 ?_ | refine brF c01 ?_ | refine brT c11 ?_ | refine brT (by assumption) ?_ | refine brF (by assumption) ?_)
      refine e_copy_50_52 (fun μ1 e1 => ?_)
      refine calmM_loop (μ := telM ν2 3) (v := v) hx hI.1.2 (fun ν3 j3 h3 hB => by rw [hj] at h3; cases h3) (fun ν3 h3 hB => ?_) 200 0 _ _ _ (by omega) (Nat.le_of_ble_eq_true rfl) rfl (st _ μ1 e e1) rfl
      exact hK _ _ _ rfl (Inv_tb hI f2 hB (by decide))
  · refine unl (bfT rfl ?_)
    repeat' (first | refine brT (by assumption) ?_ | refine brF (by assumption) ?_ | refine br (fun q => ?_) (fun q => ?_))
    refine x_tell0 ?_; refine (hm _ _).trans ?_; refine unl (bfT rfl ?_); (repeat' (first | refine brF c10 ?_ | refine brT c00 ?_ | refine brF c01 ?_ | refine brT c11 ?_ | refine brT (by assumption) ?_ | refine brF (by assumption) ?_)); refine e_find0 ?_; exact hK _ _ _ rfl (Inv_tell hI (by decide))
  · refine unl (bfT rfl ?_)
    repeat' (first | refine brT (by assumption) ?_ | refine brF (by assumption) ?_ | refine br (fun q => ?_) (fun q => ?_))
    refine x_tell0 ?_; refine (hm _ _).trans ?_; refine unl (bfT rfl ?_); (repeat' (first | refine brF c10 ?_ | refine brT c00 ?_ | refine brF c01 ?_ | refine brT c11 ?_ | refine brT (by assumption) ?_ | refine brF (by assumption) ?_)); refine e_find0 ?_; exact hK _ _ _ rfl (Inv_tell hI (by decide))
