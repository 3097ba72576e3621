/-! as; sheets: new ones, writing -/
set_option maxRecDepth 100000 in
set_option maxHeartbeats 4000000 in
theorem T_as {μ : Mem} {k1 : Rtn} {K : Int32 → Rtn} {X : Option Rz} (hI : Inv μ) {s a : Int32} (hm : ∀ v μ1, k1 (some (.int v)) μ1 = S_X5_as [.ref 49, .int s, .int a] μ1 (K v)) (hK : ∀ v w μ2, v = w → Inv μ2 → K v (some (.int w)) μ2 = X) : S_X4_as [.ref 0, .int s, .int a] μ k1 = X := by
  by_cases s1 : s < 0
  · refine unl (bfT rfl ?_)
    repeat' (first | refine brT (by assumption) ?_ | refine brF (by assumption) ?_ | refine br (fun q => ?_) (fun q => ?_))
    refine x_tell0 ?_; refine (hm _ _).trans ?_; refine unl (bfT rfl ?_); (repeat' (first | refine brF c10 ?_ | refine brT c00 ?_ | refine brF c01 ?_ | refine brT c11 ?_ | refine brT (by assumption) ?_ | refine brF (by assumption) ?_)); refine e_find0 ?_; exact hK _ _ _ rfl (Inv_tell hI (by decide))
  by_cases s2 : 9 < s
  · refine unl (bfT rfl ?_)
    repeat' (first | refine brT (by assumption) ?_ | refine brF (by assumption) ?_ | refine br (fun q => ?_) (fun q => ?_))
    refine x_tell0 ?_; refine (hm _ _).trans ?_; refine unl (bfT rfl ?_); (repeat' (first | refine brF c10 ?_ | refine brT c00 ?_ | refine brF c01 ?_ | refine brT c11 ?_ | refine brT (by assumption) ?_ | refine brF (by assumption) ?_)); refine e_find0 ?_; exact hK _ _ _ rfl (Inv_tell hI (by decide))
  by_cases a1 : a < 0
  · refine unl (bfT rfl ?_)
    repeat' (first | refine brT (by assumption) ?_ | refine brF (by assumption) ?_ | refine br (fun q => ?_) (fun q => ?_))
    refine x_tell0 ?_; refine (hm _ _).trans ?_; refine unl (bfT rfl ?_); (repeat' (first | refine brF c10 ?_ | refine brT c00 ?_ | refine brF c01 ?_ | refine brT c11 ?_ | refine brT (by assumption) ?_ | refine brF (by assumption) ?_)); refine e_find0 ?_; exact hK _ _ _ rfl (Inv_tell hI (by decide))
  by_cases a2 : 6 < a
  · refine unl (bfT rfl ?_)
    repeat' (first | refine brT (by assumption) ?_ | refine brF (by assumption) ?_ | refine br (fun q => ?_) (fun q => ?_))
    refine x_tell0 ?_; refine (hm _ _).trans ?_; refine unl (bfT rfl ?_); (repeat' (first | refine brF c10 ?_ | refine brT c00 ?_ | refine brF c01 ?_ | refine brT c11 ?_ | refine brT (by assumption) ?_ | refine brF (by assumption) ?_)); refine e_find0 ?_; exact hK _ _ _ rfl (Inv_tell hI (by decide))
  obtain ⟨j, hj, rfl⟩ := nlt_VB (n := 9) (x := s) (by decide) s1 s2
  obtain ⟨b, hb, rfl⟩ := nlt_VB (n := 6) (x := a) (by decide) a1 a2
  have hi2 : inB ((12 : Int32) + nI j) 70 = true := by rw [ix12]; exact inB_nI (by omega) (by decide)
  have e : ra (μ 50) ((12 : Int32) + nI j) = μ 50 (12 + j) := by
    show μ 50 ((12 : Int32) + nI j).toNatClampNeg = _
    rw [ix12, nI_cl (by omega)]
  have e7 : μ 7 (nI j).toNatClampNeg = μ 50 (12 + j) := by
    rw [nI_cl (by omega)]
    exact hI.1.1.2.2.1 j (by omega)
  have hH := e7.trans e.symm
  rcases hI.1.2.2.1 j (by omega) with h | ⟨d, hd, h⟩
  · have c1 : μ 7 (nI j).toNatClampNeg < 0 := by rw [e7, h]; decide
    have c2 : ra (μ 50) ((12 : Int32) + nI j) < 0 := by rw [e, h]; decide
    refine unl (bfT rfl ?_)
    repeat' (first | refine brF c10 ?_ | refine brT c00 ?_ | refine brF c01 ?_ | refine brT c11 ?_ | refine brT (by assumption) ?_ | refine brF (by assumption) ?_)
    refine (@bfT _ _ _ _ _ (inB_nI (n := j) (L := 10) (by omega) (by decide))) ?_
    refine brT c1 ?_
    refine x_tell5 ?_
    refine (hm _ _).trans ?_
    refine unl (bfT rfl ?_)
    repeat' (first | refine brF c10 ?_ | refine brT c00 ?_ | refine brF c01 ?_ | refine brT c11 ?_ | refine brT (by assumption) ?_ | refine brF (by assumption) ?_)
    refine (@bfT _ _ _ _ _ (hi2)) ?_
    refine brT c2 ?_
    refine e_find5 ?_
    exact hK _ _ _ rfl (Inv_tell hI (by decide))
  · have h8 := hI.1.2.n8
    have hx : dI (μ 7 (nI j).toNatClampNeg) := ⟨d, by omega, e7.trans h⟩
    have hx2 : dI (ra (μ 50) ((12 : Int32) + nI j)) := ⟨d, by omega, e.trans h⟩
    have hh : hasR (μ 50) (μ 7 (nI j).toNatClampNeg) := ⟨d, hd, e7.trans h⟩
    have c1 : ¬ μ 7 (nI j).toNatClampNeg < 0 := by rw [e7, h]; exact nI_nl (by omega)
    have c2 : ¬ ra (μ 50) ((12 : Int32) + nI j) < 0 := by rw [e, h]; exact nI_nl (by omega)
    have c3 : μ 7 (nI j).toNatClampNeg < μ 1 7 := by
      rw [e7, h, hI.1.1.1.2.1, hI.1.2.n1]
      exact nI_lt hd (by omega)
    obtain ⟨d0, hd0, e0⟩ := hasR.kd hI.1.1 hI.1.2 hh
    have e9 : rD (μ 50) (ra (μ 50) ((12 : Int32) + nI j)) 0 = nI d0 := by
      rw [← hH]
      exact (rep_at hI.1.1 hI.1.2 hh (by decide : 0 < 6)).symm.trans e0
    have ref : ∀ (z : Int32) (ν : Mem), ν 50 = μ 50 → (isUV d0 b = 0 → K z (some (.int (-1000003))) (fndM ν 2) = X) → (¬ isUV d0 b = 0 → K z (some (.int (μ 7 (nI j).toNatClampNeg))) ν = X) → S_X5_as [.ref 49, .int (nI j), .int (nI b)] ν (K z) = X := by
      intro z ν e50 q1 q2
      have c4 : ¬ ra (ν 50) ((12 : Int32) + nI j) < 0 := by rw [e50]; exact c2
      have eH : ra (ν 50) ((12 : Int32) + nI j) = μ 7 (nI j).toNatClampNeg := by rw [e50]; exact hH.symm
      refine unl (bfT rfl ?_)
      repeat' (first | refine brF c10 ?_ | refine brT c00 ?_ | refine brF c01 ?_ | refine brT c11 ?_ | refine brT (by assumption) ?_ | refine brF (by assumption) ?_)
      refine (@bfT _ _ _ _ _ (hi2)) ?_
      refine brF c4 ?_
      refine e_dIs (show dI (ra (ν 50) ((12 : Int32) + nI j)) from by rw [e50]; exact hx2) f0 ?_
      refine e_isUnder (a := d0) (b := b) (show rD (ν 50) (ra (ν 50) ((12 : Int32) + nI j)) 0 = nI d0 from by rw [e50]; exact e9) rfl hd0 (by omega) ?_
      by_cases u : isUV d0 b = 0
      · refine brT u ?_
        refine e_find2 ?_
        exact q1 u
      · refine brF u ?_
        show K z (some (.int (ra (ν 50) ((12 : Int32) + nI j)))) ν = X
        rw [eH]
        exact q2 u
    refine unl (bfT rfl ?_)
    repeat' (first | refine brF c10 ?_ | refine brT c00 ?_ | refine brF c01 ?_ | refine brT c11 ?_ | refine brT (by assumption) ?_ | refine brF (by assumption) ?_)
    refine (@bfT _ _ _ _ _ (inB_nI (n := j) (L := 10) (by omega) (by decide))) ?_
    refine brF c1 ?_
    refine brT c3 ?_
    refine (@bfT _ _ _ _ _ (in8 hx)) ?_
    refine (@bfT _ _ _ _ _ (kdq_1 hx)) ?_
    rcases (by omega : b = 0 ∨ b = 1 ∨ b = 2 ∨ b = 3 ∨ b = 4 ∨ b = 5 ∨ b = 6) with rfl | rfl | rfl | rfl | rfl | rfl | rfl <;> rcases (by omega : d0 = 0 ∨ d0 = 1 ∨ d0 = 2 ∨ d0 = 3 ∨ d0 = 4 ∨ d0 = 5 ∨ d0 = 6) with rfl | rfl | rfl | rfl | rfl | rfl | rfl
    all_goals (repeat (first | refine (@bfT _ _ _ _ _ (kdq_1 hx)) ?_ | refine brT (e0.trans (by decide)) ?_ | refine brF (fun q => absurd (e0.symm.trans q) (by decide)) ?_))
    all_goals (first | (refine x_tell2 ?_; refine (hm _ _).trans ?_; refine ref _ _ rfl (fun _ => ?_) (fun u => absurd rfl u); exact hK _ _ _ rfl (Inv_tell hI (by decide))) | (refine (hm _ _).trans ?_; refine ref _ _ rfl (fun u => absurd u (by decide)) (fun _ => ?_); exact hK _ _ _ rfl hI))
theorem Inv_sheet {μ ν : Mem} (hI : Inv μ) (hh : ∀ i, ¬ (40 ≤ i ∧ i ≤ 47) → ¬ (56 ≤ i ∧ i ≤ 59) → ν i = μ i) (i4 : I4 ν) : Inv ν := by
  obtain ⟨i1, i2, i3, -, i5⟩ := hI
  have q : ∀ i, i ≤ 39 ∨ (48 ≤ i ∧ i ≤ 55) → ν i = μ i := fun i h => hh i (by omega) (by omega)
  refine ⟨⟨?_, ?_⟩, I2_same (by rw [q 0 (by omega)]) (by rw [q 49 (by omega)]) (q 51 (by omega)) (fun i hi => q i (by unfold inC at hi; omega)) i2, I3_same (q 37 (by omega)) (q 38 (by omega)) (by rw [q 49 (by omega)]) (q 54 (by omega)) i3, i4, I5_same (q 48 (by omega)) (q 53 (by omega)) i5⟩
  · rw [q 50 (by omega)]
    exact rep_same (fun i hi => q i (by unfold inC at hi; omega)) i1.2.n8 i1.1
  · rw [q 50 (by omega)]; exact i1.2
def zS (j i : Nat) (f : Nat → Int32) : Nat → Int32 := fun p => if 40 * j ≤ p ∧ p < 40 * j + i then 0 else f p
theorem zS_0 (j : Nat) (f : Nat → Int32) : zS j 0 f = f := by
  funext p
  unfold zS
  rw [if_neg (by omega)]
theorem zS_s (j i : Nat) (f : Nat → Int32) : upf (zS j i f) (40 * j + i) 0 = zS j (i + 1) f := by
  funext p
  by_cases e : p = 40 * j + i
  · subst e
    rw [upf_at]
    unfold zS
    rw [if_pos (by omega)]
  · rw [upf_ne _ _ e]
    unfold zS
    by_cases h : 40 * j ≤ p ∧ p < 40 * j + i
    · rw [if_pos h, if_pos (by omega)]
    · rw [if_neg h, if_neg (by omega)]
theorem ix40 (j i : Nat) : (40 : Int32) * nI j + nI i = nI (40 * j + i) := by
  rw [show (40 : Int32) = nI 40 from rfl, pk_mul, nI_add]
theorem in40 {j i : Nat} (hj : j < 4) (hi : i < 40) : inB ((40 : Int32) * nI j + nI i) 160 = true := by
  rw [ix40]; exact inB_nI (by omega) (by decide)
theorem cl40 {j i : Nat} (hj : j < 4) (hi : i < 40) : ((40 : Int32) * nI j + nI i).toNatClampNeg = 40 * j + i := by
  rw [ix40]; exact nI_cl (by omega)
set_option maxRecDepth 100000 in
theorem sheet_loop {k : Rtn} {X : Option Rz} {μ : Mem} {j : Nat} {b n : Int32} (hj : j < 4) (hk : ∀ μ', μ' = up1 μ 58 (zS j 40 (μ 58)) → k (some (.int (μ 57 j))) μ' = X) :
    ∀ (m i f : Nat) (x : Int32) (ν : Mem), i + m = 40 → 40 * m + 40 ≤ f → x = nI i → ν = up1 μ 58 (zS j i (μ 58)) → lockO (oILd 4 88) 0 (runK P_X5_sheet f k) k [some (.ref 49), some (.int (nI j)), some (.int b), some (.int n), some (.int x)] [] ν = X := by
  intro m
  induction m with
  | zero =>
    intro i f x ν hi hf hx hν
    subst hx; subst hν
    obtain ⟨F, rfl⟩ : ∃ F, f = F + 40 := ⟨f - 40, by omega⟩
    have e : i = 40 := by omega
    subst e
    refine unO ?_
    refine (@bfT _ _ _ _ _ (inB_nI (n := j) (L := 4) (by omega) (by decide))) ?_
    have h9 := hk _ rfl
    rw [← h9]
    show k (some (.int (μ 57 (nI j).toNatClampNeg))) _ = _
    rw [nI_cl (by omega)]
  | succ m ih =>
    intro i f x ν hi hf hx hν
    subst hx; subst hν
    obtain ⟨F, rfl⟩ : ∃ F, f = F + 40 := ⟨f - 40, by omega⟩
    refine unO ?_
    refine brT (nI_lt (a := i) (b := 40) (by omega) (by decide)) ?_
    refine (@bfT _ _ _ _ _ (in40 hj (show i < 40 by omega))) ?_
    refine ih (i + 1) _ _ _ (by omega) (by omega) (nI_succ i).symm ?_
    refine (up2_up1 μ 58 _ _ _).trans ?_
    rw [cl40 hj (by omega), zS_s]
theorem Inv_renew {μ ν : Mem} (hI : Inv μ) {j : Nat} {b n : Int32} (hj : j < 4) (hb : b = 0 ∨ b = 8 ∨ b = 16 ∨ b = 32) (hn : VB n 40) (h1 : ν (40 + j) 0 = b) (h2 : ν (40 + j) 1 = n) (h3 : ∀ i, i < 40 → ν (44 + j) i = 0) (h4 : ν 56 = upf (μ 56) j b) (h5 : ν 57 = upf (μ 57) j n) (h6 : ν 58 = zS j 40 (μ 58)) (hh : ∀ i, ¬ i = 40 + j → ¬ i = 44 + j → ¬ i = 56 → ¬ i = 57 → ¬ i = 58 → ν i = μ i) : Inv ν := by
  refine Inv_sheet hI (fun i p q => hh i (by omega) (by omega) (by omega) (by omega) (by omega)) (fun s hs => ?_)
  by_cases e : s = j
  · subst e
    rw [h4, h5, h6, upf_at, upf_at]
    refine ⟨h1, h2, hb, hn, fun i hi => ?_⟩
    rw [h3 i hi]
    unfold zS
    rw [if_pos (by omega)]
  · rw [h4, h5, h6, upf_ne _ _ e, upf_ne _ _ e, hh (40 + s) (by omega) (by omega) (by omega) (by omega) (by omega), hh (44 + s) (by omega) (by omega) (by omega) (by omega) (by omega)]
    obtain ⟨a1, a2, a3, a4, a5⟩ := hI.2.2.2.1 s hs
    refine ⟨a1, a2, a3, a4, fun i hi => ?_⟩
    unfold zS
    rw [if_neg (by omega)]
    exact a5 i hi
def cutV (v b : Int32) : Int32 := if b = 8 then v.toInt8.toInt32 else if b = 16 then v.toInt16.toInt32 else v
theorem Inv_write {μ ν : Mem} (hI : Inv μ) {j i : Nat} {v : Int32} (hj : j < 4) (hi : i < 40) (h1 : ν (44 + j) = upf (μ (44 + j)) i v) (h2 : ν 58 = upf (μ 58) (40 * j + i) v) (hh : ∀ i, ¬ i = 44 + j → ¬ i = 58 → ν i = μ i) : Inv ν := by
  refine Inv_sheet hI (fun i p q => hh i (by omega) (by omega)) (fun s hs => ?_)
  rw [h2, hh 56 (by omega) (by omega), hh 57 (by omega) (by omega), hh (40 + s) (by omega) (by omega)]
  obtain ⟨a1, a2, a3, a4, a5⟩ := hI.2.2.2.1 s hs
  refine ⟨a1, a2, a3, a4, fun p hp => ?_⟩
  by_cases e : s = j
  · subst e
    rw [h1]
    by_cases q : p = i
    · subst q; rw [upf_at, upf_at]
    · rw [upf_ne _ _ q, upf_ne _ _ (by omega)]; exact a5 p hp
  · rw [hh (44 + s) (by omega) (by omega), upf_ne _ _ (by omega)]
    exact a5 p hp
set_option maxRecDepth 100000 in
theorem renew_loop_0 {k : Rtn} {X : Option Rz} {μ : Mem} {a b : Int32} (hk : ∀ μ', μ' = up1 μ 44 (cpI 40 (fun _ => 0) (μ 44)) → k none μ' = X) :
    ∀ (m i f : Nat) (x : Int32) (ν : Mem), i + m = 40 → 20 * m + 20 ≤ f → x = nI i → ν = up1 μ 44 (cpI i (fun _ => 0) (μ 44)) → lockO (oILd 3 13) 0 (runK P_X2_renew f k) k [some (.ref 40), some (.int a), some (.int b), some (.int x)] [] ν = X := by
  intro m
  induction m with
  | zero =>
    intro i f x ν hi hf hx hν
    subst hx; subst hν
    obtain ⟨F, rfl⟩ : ∃ F, f = F + 20 := ⟨f - 20, by omega⟩
    have e : i = 40 := by omega
    subst e
    refine unO ?_
    exact hk _ rfl
  | succ m ih =>
    intro i f x ν hi hf hx hν
    subst hx; subst hν
    obtain ⟨F, rfl⟩ : ∃ F, f = F + 20 := ⟨f - 20, by omega⟩
    refine unO ?_
    refine brT (nI_lt (a := i) (b := 40) (by omega) (by decide)) ?_
    refine (@bfT _ _ _ _ _ (inB_nI (n := i) (L := 40) (by omega) (by decide))) ?_
    refine ih (i + 1) _ _ _ (by omega) (by omega) (nI_succ i).symm ?_
    refine (up2_up1 μ 44 _ _ _).trans ?_
    rw [nI_cl (by omega), ← cpI_s]
set_option maxRecDepth 100000 in
theorem x_renew_0 {μ : Mem} {k : Rtn} {X : Option Rz} {a b : Int32} (hk : ∀ μ', μ' = up1 (up2 (up2 μ 40 0 a) 40 1 b) 44 (cpI 40 (fun _ => 0) (μ 44)) → k none μ' = X) : S_X2_renew [.ref 40, .int a, .int b] μ k = X := by
  refine unl (bfT rfl ?_)
  refine renew_loop_0 (μ := up2 (up2 μ 40 0 a) 40 1 b) (fun μ' e => hk μ' e) 40 0 _ _ _ (by omega) (fu (by omega) rfl) rfl ?_
  rw [cpI_0]
  exact (up1_self _ 44).symm
set_option maxRecDepth 100000 in
theorem x_sput_0 {μ : Mem} {k : Rtn} {X : Option Rz} {i : Nat} {v : Int32} (hi : i < 40) (hk : ∀ μ', μ' = up2 μ 44 i (cutV v (μ 40 0)) → k none μ' = X) : S_X2_put [.ref 40, .int (nI i), .int v] μ k = X := by
  unfold cutV at hk
  refine unl (bfT rfl ?_)
  by_cases h8 : μ 40 0 = 8
  · rw [if_pos h8] at hk
    refine brT h8 ?_
    refine (@bfT _ _ _ _ _ (inB_nI (n := i) (L := 40) hi (by decide))) ?_
    refine hk _ ?_
    rw [nI_cl (by omega)]
    rfl
  · rw [if_neg h8] at hk
    refine brF h8 ?_
    by_cases h6 : μ 40 0 = 16
    · rw [if_pos h6] at hk
      refine brT h6 ?_
      refine (@bfT _ _ _ _ _ (inB_nI (n := i) (L := 40) hi (by decide))) ?_
      refine hk _ ?_
      rw [nI_cl (by omega)]
      rfl
    · rw [if_neg h6] at hk
      refine brF h6 ?_
      refine (@bfT _ _ _ _ _ (inB_nI (n := i) (L := 40) hi (by decide))) ?_
      refine hk _ ?_
      rw [nI_cl (by omega)]
      rfl
set_option maxRecDepth 100000 in
theorem T_sheet_0 {μ : Mem} {k1 : Rtn} {K : Int32 → Rtn} {X : Option Rz} (hI : Inv μ) {b n z : Int32} (hb : b = 0 ∨ b = 8 ∨ b = 16 ∨ b = 32) (n1 : ¬ n < 0) (n2 : ¬ 40 < n) (hz : z = if b = 0 then 0 else n) (hm : ∀ v μ1, k1 (some (.int v)) μ1 = S_X5_sheet [.ref 49, .int 0, .int b, .int n] μ1 (K v)) (hK : ∀ v w μ2, v = w → Inv μ2 → K v (some (.int w)) μ2 = X) : S_X4_sheet [.ref 0, .int 0, .int b, .int n] μ k1 = X := by
  have hn : VB n 40 := nlt_VB (by decide) n1 n2
  have hzb : VB z 40 := by
    rw [hz]
    split
    · exact ⟨0, by omega, rfl⟩
    · exact hn
  have fin : ∀ ν : Mem, ν = up1 (up2 (up2 (up1 (up2 (up2 μ 40 0 b) 40 1 z) 44 (cpI 40 (fun _ => 0) (μ 44))) 56 0 b) 57 0 z) 58 (zS 0 40 (μ 58)) → Inv ν := by
    intro ν e
    subst e
    refine Inv_renew (j := 0) hI (by decide) hb hzb rfl rfl (fun i hi => (cpI_lt hi : cpI 40 (fun _ => 0) (μ 44) i = 0)) rfl rfl rfl (fun i a1 a2 a3 a4 a5 => ?_)
    rw [up1_ne _ _ a5, up2_ne _ _ a4, up2_ne _ _ a3, up1_ne _ _ a2, up2_ne _ _ a1, up2_ne _ _ a1]
  rcases hb with rfl | rfl | rfl | rfl
  all_goals (refine unl (bfT rfl ?_))
  all_goals (repeat' (first | refine brF c10 ?_ | refine brT c00 ?_ | refine brF c01 ?_ | refine brT c11 ?_ | refine brT (by assumption) ?_ | refine brF (by assumption) ?_))
  all_goals (refine x_renew_0 (fun μ1 e1 => ?_))
  all_goals (have e2 : μ1 40 1 = z := by (rw [e1, hz]; rfl))
  all_goals (refine (hm _ _).trans ?_)
  all_goals (refine unl (bfT rfl ?_))
  all_goals (repeat' (first | refine brF c10 ?_ | refine brT c00 ?_ | refine brF c01 ?_ | refine brT c11 ?_ | refine brT (by assumption) ?_ | refine brF (by assumption) ?_))
  · refine sheet_loop (j := 0) (μ := up2 (up2 μ1 56 0 0) 57 0 0) (by decide) (fun μ2 e3 => ?_) 40 0 _ _ _ (by omega) (Nat.le_of_ble_eq_true rfl) rfl ?_
    · refine hK _ _ _ (e2.trans hz) (fin _ ?_)
      rw [e3, e1, hz]
      rfl
    · rw [zS_0]; exact (up1_self _ 58).symm
  · refine sheet_loop (j := 0) (μ := up2 (up2 μ1 56 0 8) 57 0 n) (by decide) (fun μ2 e3 => ?_) 40 0 _ _ _ (by omega) (Nat.le_of_ble_eq_true rfl) rfl ?_
    · refine hK _ _ _ (e2.trans hz) (fin _ ?_)
      rw [e3, e1, hz]
      rfl
    · rw [zS_0]; exact (up1_self _ 58).symm
  · refine sheet_loop (j := 0) (μ := up2 (up2 μ1 56 0 16) 57 0 n) (by decide) (fun μ2 e3 => ?_) 40 0 _ _ _ (by omega) (Nat.le_of_ble_eq_true rfl) rfl ?_
    · refine hK _ _ _ (e2.trans hz) (fin _ ?_)
      rw [e3, e1, hz]
      rfl
    · rw [zS_0]; exact (up1_self _ 58).symm
  · refine sheet_loop (j := 0) (μ := up2 (up2 μ1 56 0 32) 57 0 n) (by decide) (fun μ2 e3 => ?_) 40 0 _ _ _ (by omega) (Nat.le_of_ble_eq_true rfl) rfl ?_
    · refine hK _ _ _ (e2.trans hz) (fin _ ?_)
      rw [e3, e1, hz]
      rfl
    · rw [zS_0]; exact (up1_self _ 58).symm
set_option maxRecDepth 100000 in
theorem renew_loop_1 {k : Rtn} {X : Option Rz} {μ : Mem} {a b : Int32} (hk : ∀ μ', μ' = up1 μ 45 (cpI 40 (fun _ => 0) (μ 45)) → k none μ' = X) :
    ∀ (m i f : Nat) (x : Int32) (ν : Mem), i + m = 40 → 20 * m + 20 ≤ f → x = nI i → ν = up1 μ 45 (cpI i (fun _ => 0) (μ 45)) → lockO (oILd 3 13) 0 (runK P_X2_renew f k) k [some (.ref 41), some (.int a), some (.int b), some (.int x)] [] ν = X := by
  intro m
  induction m with
  | zero =>
    intro i f x ν hi hf hx hν
    subst hx; subst hν
    obtain ⟨F, rfl⟩ : ∃ F, f = F + 20 := ⟨f - 20, by omega⟩
    have e : i = 40 := by omega
    subst e
    refine unO ?_
    exact hk _ rfl
  | succ m ih =>
    intro i f x ν hi hf hx hν
    subst hx; subst hν
    obtain ⟨F, rfl⟩ : ∃ F, f = F + 20 := ⟨f - 20, by omega⟩
    refine unO ?_
    refine brT (nI_lt (a := i) (b := 40) (by omega) (by decide)) ?_
    refine (@bfT _ _ _ _ _ (inB_nI (n := i) (L := 40) (by omega) (by decide))) ?_
    refine ih (i + 1) _ _ _ (by omega) (by omega) (nI_succ i).symm ?_
    refine (up2_up1 μ 45 _ _ _).trans ?_
    rw [nI_cl (by omega), ← cpI_s]
set_option maxRecDepth 100000 in
theorem x_renew_1 {μ : Mem} {k : Rtn} {X : Option Rz} {a b : Int32} (hk : ∀ μ', μ' = up1 (up2 (up2 μ 41 0 a) 41 1 b) 45 (cpI 40 (fun _ => 0) (μ 45)) → k none μ' = X) : S_X2_renew [.ref 41, .int a, .int b] μ k = X := by
  refine unl (bfT rfl ?_)
  refine renew_loop_1 (μ := up2 (up2 μ 41 0 a) 41 1 b) (fun μ' e => hk μ' e) 40 0 _ _ _ (by omega) (fu (by omega) rfl) rfl ?_
  rw [cpI_0]
  exact (up1_self _ 45).symm
set_option maxRecDepth 100000 in
theorem x_sput_1 {μ : Mem} {k : Rtn} {X : Option Rz} {i : Nat} {v : Int32} (hi : i < 40) (hk : ∀ μ', μ' = up2 μ 45 i (cutV v (μ 41 0)) → k none μ' = X) : S_X2_put [.ref 41, .int (nI i), .int v] μ k = X := by
  unfold cutV at hk
  refine unl (bfT rfl ?_)
  by_cases h8 : μ 41 0 = 8
  · rw [if_pos h8] at hk
    refine brT h8 ?_
    refine (@bfT _ _ _ _ _ (inB_nI (n := i) (L := 40) hi (by decide))) ?_
    refine hk _ ?_
    rw [nI_cl (by omega)]
    rfl
  · rw [if_neg h8] at hk
    refine brF h8 ?_
    by_cases h6 : μ 41 0 = 16
    · rw [if_pos h6] at hk
      refine brT h6 ?_
      refine (@bfT _ _ _ _ _ (inB_nI (n := i) (L := 40) hi (by decide))) ?_
      refine hk _ ?_
      rw [nI_cl (by omega)]
      rfl
    · rw [if_neg h6] at hk
      refine brF h6 ?_
      refine (@bfT _ _ _ _ _ (inB_nI (n := i) (L := 40) hi (by decide))) ?_
      refine hk _ ?_
      rw [nI_cl (by omega)]
      rfl
set_option maxRecDepth 100000 in
theorem T_sheet_1 {μ : Mem} {k1 : Rtn} {K : Int32 → Rtn} {X : Option Rz} (hI : Inv μ) {b n z : Int32} (hb : b = 0 ∨ b = 8 ∨ b = 16 ∨ b = 32) (n1 : ¬ n < 0) (n2 : ¬ 40 < n) (hz : z = if b = 0 then 0 else n) (hm : ∀ v μ1, k1 (some (.int v)) μ1 = S_X5_sheet [.ref 49, .int 1, .int b, .int n] μ1 (K v)) (hK : ∀ v w μ2, v = w → Inv μ2 → K v (some (.int w)) μ2 = X) : S_X4_sheet [.ref 0, .int 1, .int b, .int n] μ k1 = X := by
  have hn : VB n 40 := nlt_VB (by decide) n1 n2
  have hzb : VB z 40 := by
    rw [hz]
    split
    · exact ⟨0, by omega, rfl⟩
    · exact hn
  have fin : ∀ ν : Mem, ν = up1 (up2 (up2 (up1 (up2 (up2 μ 41 0 b) 41 1 z) 45 (cpI 40 (fun _ => 0) (μ 45))) 56 1 b) 57 1 z) 58 (zS 1 40 (μ 58)) → Inv ν := by
    intro ν e
    subst e
    refine Inv_renew (j := 1) hI (by decide) hb hzb rfl rfl (fun i hi => (cpI_lt hi : cpI 40 (fun _ => 0) (μ 45) i = 0)) rfl rfl rfl (fun i a1 a2 a3 a4 a5 => ?_)
    rw [up1_ne _ _ a5, up2_ne _ _ a4, up2_ne _ _ a3, up1_ne _ _ a2, up2_ne _ _ a1, up2_ne _ _ a1]
  rcases hb with rfl | rfl | rfl | rfl
  all_goals (refine unl (bfT rfl ?_))
  all_goals (repeat' (first | refine brF c10 ?_ | refine brT c00 ?_ | refine brF c01 ?_ | refine brT c11 ?_ | refine brT (by assumption) ?_ | refine brF (by assumption) ?_))
  all_goals (refine x_renew_1 (fun μ1 e1 => ?_))
  all_goals (have e2 : μ1 41 1 = z := by (rw [e1, hz]; rfl))
  all_goals (refine (hm _ _).trans ?_)
  all_goals (refine unl (bfT rfl ?_))
  all_goals (repeat' (first | refine brF c10 ?_ | refine brT c00 ?_ | refine brF c01 ?_ | refine brT c11 ?_ | refine brT (by assumption) ?_ | refine brF (by assumption) ?_))
  · refine sheet_loop (j := 1) (μ := up2 (up2 μ1 56 1 0) 57 1 0) (by decide) (fun μ2 e3 => ?_) 40 0 _ _ _ (by omega) (Nat.le_of_ble_eq_true rfl) rfl ?_
    · refine hK _ _ _ (e2.trans hz) (fin _ ?_)
      rw [e3, e1, hz]
      rfl
    · rw [zS_0]; exact (up1_self _ 58).symm
  · refine sheet_loop (j := 1) (μ := up2 (up2 μ1 56 1 8) 57 1 n) (by decide) (fun μ2 e3 => ?_) 40 0 _ _ _ (by omega) (Nat.le_of_ble_eq_true rfl) rfl ?_
    · refine hK _ _ _ (e2.trans hz) (fin _ ?_)
      rw [e3, e1, hz]
      rfl
    · rw [zS_0]; exact (up1_self _ 58).symm
  · refine sheet_loop (j := 1) (μ := up2 (up2 μ1 56 1 16) 57 1 n) (by decide) (fun μ2 e3 => ?_) 40 0 _ _ _ (by omega) (Nat.le_of_ble_eq_true rfl) rfl ?_
    · refine hK _ _ _ (e2.trans hz) (fin _ ?_)
      rw [e3, e1, hz]
      rfl
    · rw [zS_0]; exact (up1_self _ 58).symm
  · refine sheet_loop (j := 1) (μ := up2 (up2 μ1 56 1 32) 57 1 n) (by decide) (fun μ2 e3 => ?_) 40 0 _ _ _ (by omega) (Nat.le_of_ble_eq_true rfl) rfl ?_
    · refine hK _ _ _ (e2.trans hz) (fin _ ?_)
      rw [e3, e1, hz]
      rfl
    · rw [zS_0]; exact (up1_self _ 58).symm
set_option maxRecDepth 100000 in
theorem renew_loop_2 {k : Rtn} {X : Option Rz} {μ : Mem} {a b : Int32} (hk : ∀ μ', μ' = up1 μ 46 (cpI 40 (fun _ => 0) (μ 46)) → k none μ' = X) :
    ∀ (m i f : Nat) (x : Int32) (ν : Mem), i + m = 40 → 20 * m + 20 ≤ f → x = nI i → ν = up1 μ 46 (cpI i (fun _ => 0) (μ 46)) → lockO (oILd 3 13) 0 (runK P_X2_renew f k) k [some (.ref 42), some (.int a), some (.int b), some (.int x)] [] ν = X := by
  intro m
  induction m with
  | zero =>
    intro i f x ν hi hf hx hν
    subst hx; subst hν
    obtain ⟨F, rfl⟩ : ∃ F, f = F + 20 := ⟨f - 20, by omega⟩
    have e : i = 40 := by omega
    subst e
    refine unO ?_
    exact hk _ rfl
  | succ m ih =>
    intro i f x ν hi hf hx hν
    subst hx; subst hν
    obtain ⟨F, rfl⟩ : ∃ F, f = F + 20 := ⟨f - 20, by omega⟩
    refine unO ?_
    refine brT (nI_lt (a := i) (b := 40) (by omega) (by decide)) ?_
    refine (@bfT _ _ _ _ _ (inB_nI (n := i) (L := 40) (by omega) (by decide))) ?_
    refine ih (i + 1) _ _ _ (by omega) (by omega) (nI_succ i).symm ?_
    refine (up2_up1 μ 46 _ _ _).trans ?_
    rw [nI_cl (by omega), ← cpI_s]
set_option maxRecDepth 100000 in
theorem x_renew_2 {μ : Mem} {k : Rtn} {X : Option Rz} {a b : Int32} (hk : ∀ μ', μ' = up1 (up2 (up2 μ 42 0 a) 42 1 b) 46 (cpI 40 (fun _ => 0) (μ 46)) → k none μ' = X) : S_X2_renew [.ref 42, .int a, .int b] μ k = X := by
  refine unl (bfT rfl ?_)
  refine renew_loop_2 (μ := up2 (up2 μ 42 0 a) 42 1 b) (fun μ' e => hk μ' e) 40 0 _ _ _ (by omega) (fu (by omega) rfl) rfl ?_
  rw [cpI_0]
  exact (up1_self _ 46).symm
set_option maxRecDepth 100000 in
theorem x_sput_2 {μ : Mem} {k : Rtn} {X : Option Rz} {i : Nat} {v : Int32} (hi : i < 40) (hk : ∀ μ', μ' = up2 μ 46 i (cutV v (μ 42 0)) → k none μ' = X) : S_X2_put [.ref 42, .int (nI i), .int v] μ k = X := by
  unfold cutV at hk
  refine unl (bfT rfl ?_)
  by_cases h8 : μ 42 0 = 8
  · rw [if_pos h8] at hk
    refine brT h8 ?_
    refine (@bfT _ _ _ _ _ (inB_nI (n := i) (L := 40) hi (by decide))) ?_
    refine hk _ ?_
    rw [nI_cl (by omega)]
    rfl
  · rw [if_neg h8] at hk
    refine brF h8 ?_
    by_cases h6 : μ 42 0 = 16
    · rw [if_pos h6] at hk
      refine brT h6 ?_
      refine (@bfT _ _ _ _ _ (inB_nI (n := i) (L := 40) hi (by decide))) ?_
      refine hk _ ?_
      rw [nI_cl (by omega)]
      rfl
    · rw [if_neg h6] at hk
      refine brF h6 ?_
      refine (@bfT _ _ _ _ _ (inB_nI (n := i) (L := 40) hi (by decide))) ?_
      refine hk _ ?_
      rw [nI_cl (by omega)]
      rfl
set_option maxRecDepth 100000 in
theorem T_sheet_2 {μ : Mem} {k1 : Rtn} {K : Int32 → Rtn} {X : Option Rz} (hI : Inv μ) {b n z : Int32} (hb : b = 0 ∨ b = 8 ∨ b = 16 ∨ b = 32) (n1 : ¬ n < 0) (n2 : ¬ 40 < n) (hz : z = if b = 0 then 0 else n) (hm : ∀ v μ1, k1 (some (.int v)) μ1 = S_X5_sheet [.ref 49, .int 2, .int b, .int n] μ1 (K v)) (hK : ∀ v w μ2, v = w → Inv μ2 → K v (some (.int w)) μ2 = X) : S_X4_sheet [.ref 0, .int 2, .int b, .int n] μ k1 = X := by
  have hn : VB n 40 := nlt_VB (by decide) n1 n2
  have hzb : VB z 40 := by
    rw [hz]
    split
    · exact ⟨0, by omega, rfl⟩
    · exact hn
  have fin : ∀ ν : Mem, ν = up1 (up2 (up2 (up1 (up2 (up2 μ 42 0 b) 42 1 z) 46 (cpI 40 (fun _ => 0) (μ 46))) 56 2 b) 57 2 z) 58 (zS 2 40 (μ 58)) → Inv ν := by
    intro ν e
    subst e
    refine Inv_renew (j := 2) hI (by decide) hb hzb rfl rfl (fun i hi => (cpI_lt hi : cpI 40 (fun _ => 0) (μ 46) i = 0)) rfl rfl rfl (fun i a1 a2 a3 a4 a5 => ?_)
    rw [up1_ne _ _ a5, up2_ne _ _ a4, up2_ne _ _ a3, up1_ne _ _ a2, up2_ne _ _ a1, up2_ne _ _ a1]
  rcases hb with rfl | rfl | rfl | rfl
  all_goals (refine unl (bfT rfl ?_))
  all_goals (repeat' (first | refine brF c10 ?_ | refine brT c00 ?_ | refine brF c01 ?_ | refine brT c11 ?_ | refine brT (by assumption) ?_ | refine brF (by assumption) ?_))
  all_goals (refine x_renew_2 (fun μ1 e1 => ?_))
  all_goals (have e2 : μ1 42 1 = z := by (rw [e1, hz]; rfl))
  all_goals (refine (hm _ _).trans ?_)
  all_goals (refine unl (bfT rfl ?_))
  all_goals (repeat' (first | refine brF c10 ?_ | refine brT c00 ?_ | refine brF c01 ?_ | refine brT c11 ?_ | refine brT (by assumption) ?_ | refine brF (by assumption) ?_))
  · refine sheet_loop (j := 2) (μ := up2 (up2 μ1 56 2 0) 57 2 0) (by decide) (fun μ2 e3 => ?_) 40 0 _ _ _ (by omega) (Nat.le_of_ble_eq_true rfl) rfl ?_
    · refine hK _ _ _ (e2.trans hz) (fin _ ?_)
      rw [e3, e1, hz]
      rfl
    · rw [zS_0]; exact (up1_self _ 58).symm
  · refine sheet_loop (j := 2) (μ := up2 (up2 μ1 56 2 8) 57 2 n) (by decide) (fun μ2 e3 => ?_) 40 0 _ _ _ (by omega) (Nat.le_of_ble_eq_true rfl) rfl ?_
    · refine hK _ _ _ (e2.trans hz) (fin _ ?_)
      rw [e3, e1, hz]
      rfl
    · rw [zS_0]; exact (up1_self _ 58).symm
  · refine sheet_loop (j := 2) (μ := up2 (up2 μ1 56 2 16) 57 2 n) (by decide) (fun μ2 e3 => ?_) 40 0 _ _ _ (by omega) (Nat.le_of_ble_eq_true rfl) rfl ?_
    · refine hK _ _ _ (e2.trans hz) (fin _ ?_)
      rw [e3, e1, hz]
      rfl
    · rw [zS_0]; exact (up1_self _ 58).symm
  · refine sheet_loop (j := 2) (μ := up2 (up2 μ1 56 2 32) 57 2 n) (by decide) (fun μ2 e3 => ?_) 40 0 _ _ _ (by omega) (Nat.le_of_ble_eq_true rfl) rfl ?_
    · refine hK _ _ _ (e2.trans hz) (fin _ ?_)
      rw [e3, e1, hz]
      rfl
    · rw [zS_0]; exact (up1_self _ 58).symm
set_option maxRecDepth 100000 in
theorem renew_loop_3 {k : Rtn} {X : Option Rz} {μ : Mem} {a b : Int32} (hk : ∀ μ', μ' = up1 μ 47 (cpI 40 (fun _ => 0) (μ 47)) → k none μ' = X) :
    ∀ (m i f : Nat) (x : Int32) (ν : Mem), i + m = 40 → 20 * m + 20 ≤ f → x = nI i → ν = up1 μ 47 (cpI i (fun _ => 0) (μ 47)) → lockO (oILd 3 13) 0 (runK P_X2_renew f k) k [some (.ref 43), some (.int a), some (.int b), some (.int x)] [] ν = X := by
  intro m
  induction m with
  | zero =>
    intro i f x ν hi hf hx hν
    subst hx; subst hν
    obtain ⟨F, rfl⟩ : ∃ F, f = F + 20 := ⟨f - 20, by omega⟩
    have e : i = 40 := by omega
    subst e
    refine unO ?_
    exact hk _ rfl
  | succ m ih =>
    intro i f x ν hi hf hx hν
    subst hx; subst hν
    obtain ⟨F, rfl⟩ : ∃ F, f = F + 20 := ⟨f - 20, by omega⟩
    refine unO ?_
    refine brT (nI_lt (a := i) (b := 40) (by omega) (by decide)) ?_
    refine (@bfT _ _ _ _ _ (inB_nI (n := i) (L := 40) (by omega) (by decide))) ?_
    refine ih (i + 1) _ _ _ (by omega) (by omega) (nI_succ i).symm ?_
    refine (up2_up1 μ 47 _ _ _).trans ?_
    rw [nI_cl (by omega), ← cpI_s]
set_option maxRecDepth 100000 in
theorem x_renew_3 {μ : Mem} {k : Rtn} {X : Option Rz} {a b : Int32} (hk : ∀ μ', μ' = up1 (up2 (up2 μ 43 0 a) 43 1 b) 47 (cpI 40 (fun _ => 0) (μ 47)) → k none μ' = X) : S_X2_renew [.ref 43, .int a, .int b] μ k = X := by
  refine unl (bfT rfl ?_)
  refine renew_loop_3 (μ := up2 (up2 μ 43 0 a) 43 1 b) (fun μ' e => hk μ' e) 40 0 _ _ _ (by omega) (fu (by omega) rfl) rfl ?_
  rw [cpI_0]
  exact (up1_self _ 47).symm
set_option maxRecDepth 100000 in
theorem x_sput_3 {μ : Mem} {k : Rtn} {X : Option Rz} {i : Nat} {v : Int32} (hi : i < 40) (hk : ∀ μ', μ' = up2 μ 47 i (cutV v (μ 43 0)) → k none μ' = X) : S_X2_put [.ref 43, .int (nI i), .int v] μ k = X := by
  unfold cutV at hk
  refine unl (bfT rfl ?_)
  by_cases h8 : μ 43 0 = 8
  · rw [if_pos h8] at hk
    refine brT h8 ?_
    refine (@bfT _ _ _ _ _ (inB_nI (n := i) (L := 40) hi (by decide))) ?_
    refine hk _ ?_
    rw [nI_cl (by omega)]
    rfl
  · rw [if_neg h8] at hk
    refine brF h8 ?_
    by_cases h6 : μ 43 0 = 16
    · rw [if_pos h6] at hk
      refine brT h6 ?_
      refine (@bfT _ _ _ _ _ (inB_nI (n := i) (L := 40) hi (by decide))) ?_
      refine hk _ ?_
      rw [nI_cl (by omega)]
      rfl
    · rw [if_neg h6] at hk
      refine brF h6 ?_
      refine (@bfT _ _ _ _ _ (inB_nI (n := i) (L := 40) hi (by decide))) ?_
      refine hk _ ?_
      rw [nI_cl (by omega)]
      rfl
set_option maxRecDepth 100000 in
theorem T_sheet_3 {μ : Mem} {k1 : Rtn} {K : Int32 → Rtn} {X : Option Rz} (hI : Inv μ) {b n z : Int32} (hb : b = 0 ∨ b = 8 ∨ b = 16 ∨ b = 32) (n1 : ¬ n < 0) (n2 : ¬ 40 < n) (hz : z = if b = 0 then 0 else n) (hm : ∀ v μ1, k1 (some (.int v)) μ1 = S_X5_sheet [.ref 49, .int 3, .int b, .int n] μ1 (K v)) (hK : ∀ v w μ2, v = w → Inv μ2 → K v (some (.int w)) μ2 = X) : S_X4_sheet [.ref 0, .int 3, .int b, .int n] μ k1 = X := by
  have hn : VB n 40 := nlt_VB (by decide) n1 n2
  have hzb : VB z 40 := by
    rw [hz]
    split
    · exact ⟨0, by omega, rfl⟩
    · exact hn
  have fin : ∀ ν : Mem, ν = up1 (up2 (up2 (up1 (up2 (up2 μ 43 0 b) 43 1 z) 47 (cpI 40 (fun _ => 0) (μ 47))) 56 3 b) 57 3 z) 58 (zS 3 40 (μ 58)) → Inv ν := by
    intro ν e
    subst e
    refine Inv_renew (j := 3) hI (by decide) hb hzb rfl rfl (fun i hi => (cpI_lt hi : cpI 40 (fun _ => 0) (μ 47) i = 0)) rfl rfl rfl (fun i a1 a2 a3 a4 a5 => ?_)
    rw [up1_ne _ _ a5, up2_ne _ _ a4, up2_ne _ _ a3, up1_ne _ _ a2, up2_ne _ _ a1, up2_ne _ _ a1]
  rcases hb with rfl | rfl | rfl | rfl
  all_goals (refine unl (bfT rfl ?_))
  all_goals (repeat' (first | refine brF c10 ?_ | refine brT c00 ?_ | refine brF c01 ?_ | refine brT c11 ?_ | refine brT (by assumption) ?_ | refine brF (by assumption) ?_))
  all_goals (refine x_renew_3 (fun μ1 e1 => ?_))
  all_goals (have e2 : μ1 43 1 = z := by (rw [e1, hz]; rfl))
  all_goals (refine (hm _ _).trans ?_)
  all_goals (refine unl (bfT rfl ?_))
  all_goals (repeat' (first | refine brF c10 ?_ | refine brT c00 ?_ | refine brF c01 ?_ | refine brT c11 ?_ | refine brT (by assumption) ?_ | refine brF (by assumption) ?_))
  · refine sheet_loop (j := 3) (μ := up2 (up2 μ1 56 3 0) 57 3 0) (by decide) (fun μ2 e3 => ?_) 40 0 _ _ _ (by omega) (Nat.le_of_ble_eq_true rfl) rfl ?_
    · refine hK _ _ _ (e2.trans hz) (fin _ ?_)
      rw [e3, e1, hz]
      rfl
    · rw [zS_0]; exact (up1_self _ 58).symm
  · refine sheet_loop (j := 3) (μ := up2 (up2 μ1 56 3 8) 57 3 n) (by decide) (fun μ2 e3 => ?_) 40 0 _ _ _ (by omega) (Nat.le_of_ble_eq_true rfl) rfl ?_
    · refine hK _ _ _ (e2.trans hz) (fin _ ?_)
      rw [e3, e1, hz]
      rfl
    · rw [zS_0]; exact (up1_self _ 58).symm
  · refine sheet_loop (j := 3) (μ := up2 (up2 μ1 56 3 16) 57 3 n) (by decide) (fun μ2 e3 => ?_) 40 0 _ _ _ (by omega) (Nat.le_of_ble_eq_true rfl) rfl ?_
    · refine hK _ _ _ (e2.trans hz) (fin _ ?_)
      rw [e3, e1, hz]
      rfl
    · rw [zS_0]; exact (up1_self _ 58).symm
  · refine sheet_loop (j := 3) (μ := up2 (up2 μ1 56 3 32) 57 3 n) (by decide) (fun μ2 e3 => ?_) 40 0 _ _ _ (by omega) (Nat.le_of_ble_eq_true rfl) rfl ?_
    · refine hK _ _ _ (e2.trans hz) (fin _ ?_)
      rw [e3, e1, hz]
      rfl
    · rw [zS_0]; exact (up1_self _ 58).symm
theorem s4 {s : Int32} (h1 : ¬ s < 0) (h2 : ¬ 3 < s) : s = 0 ∨ s = 1 ∨ s = 2 ∨ s = 3 := by
  obtain ⟨j, hj, rfl⟩ := nlt_VB (n := 3) (x := s) (by decide) h1 h2
  rcases (by omega : j = 0 ∨ j = 1 ∨ j = 2 ∨ j = 3) with rfl | rfl | rfl | rfl
  · exact Or.inl rfl
  · exact Or.inr (Or.inl rfl)
  · exact Or.inr (Or.inr (Or.inl rfl))
  · exact Or.inr (Or.inr (Or.inr rfl))
set_option maxRecDepth 100000 in
theorem T_sheet {μ : Mem} {k1 : Rtn} {K : Int32 → Rtn} {X : Option Rz} (hI : Inv μ) {s b n : Int32} (hm : ∀ v μ1, k1 (some (.int v)) μ1 = S_X5_sheet [.ref 49, .int s, .int b, .int n] μ1 (K v)) (hK : ∀ v w μ2, v = w → Inv μ2 → K v (some (.int w)) μ2 = X) : S_X4_sheet [.ref 0, .int s, .int b, .int n] μ k1 = X := by
  by_cases hb : b = 0 ∨ b = 8 ∨ b = 16 ∨ b = 32
  · by_cases s1 : s < 0
    · rcases hb with rfl | rfl | rfl | rfl
      all_goals (refine unl (bfT rfl ?_))
      all_goals (repeat' (first | refine brF c10 ?_ | refine brT c00 ?_ | refine brF c01 ?_ | refine brT c11 ?_ | refine brT (by assumption) ?_ | refine brF (by assumption) ?_))
      all_goals (refine x_tell0 ?_; refine (hm _ _).trans ?_; refine unl (bfT rfl ?_); (repeat' (first | refine brF c10 ?_ | refine brT c00 ?_ | refine brF c01 ?_ | refine brT c11 ?_ | refine brT (by assumption) ?_ | refine brF (by assumption) ?_)); refine e_find0 ?_; exact hK _ _ _ rfl (Inv_tell hI (by decide)))
    by_cases s2 : 3 < s
    · rcases hb with rfl | rfl | rfl | rfl
      all_goals (refine unl (bfT rfl ?_))
      all_goals (repeat' (first | refine brF c10 ?_ | refine brT c00 ?_ | refine brF c01 ?_ | refine brT c11 ?_ | refine brT (by assumption) ?_ | refine brF (by assumption) ?_))
      all_goals (refine x_tell0 ?_; refine (hm _ _).trans ?_; refine unl (bfT rfl ?_); (repeat' (first | refine brF c10 ?_ | refine brT c00 ?_ | refine brF c01 ?_ | refine brT c11 ?_ | refine brT (by assumption) ?_ | refine brF (by assumption) ?_)); refine e_find0 ?_; exact hK _ _ _ rfl (Inv_tell hI (by decide)))
    by_cases n1 : n < 0
    · rcases hb with rfl | rfl | rfl | rfl
      all_goals (refine unl (bfT rfl ?_))
      all_goals (repeat' (first | refine brF c10 ?_ | refine brT c00 ?_ | refine brF c01 ?_ | refine brT c11 ?_ | refine brT (by assumption) ?_ | refine brF (by assumption) ?_))
      all_goals (refine x_tell6 ?_; refine (hm _ _).trans ?_; refine unl (bfT rfl ?_); (repeat' (first | refine brF c10 ?_ | refine brT c00 ?_ | refine brF c01 ?_ | refine brT c11 ?_ | refine brT (by assumption) ?_ | refine brF (by assumption) ?_)); refine e_find6 ?_; exact hK _ _ _ rfl (Inv_tell hI (by decide)))
    by_cases n2 : 40 < n
    · rcases hb with rfl | rfl | rfl | rfl
      all_goals (refine unl (bfT rfl ?_))
      all_goals (repeat' (first | refine brF c10 ?_ | refine brT c00 ?_ | refine brF c01 ?_ | refine brT c11 ?_ | refine brT (by assumption) ?_ | refine brF (by assumption) ?_))
      all_goals (refine x_tell0 ?_; refine (hm _ _).trans ?_; refine unl (bfT rfl ?_); (repeat' (first | refine brF c10 ?_ | refine brT c00 ?_ | refine brF c01 ?_ | refine brT c11 ?_ | refine brT (by assumption) ?_ | refine brF (by assumption) ?_)); refine e_find0 ?_; exact hK _ _ _ rfl (Inv_tell hI (by decide)))
    rcases s4 s1 s2 with rfl | rfl | rfl | rfl
    · exact T_sheet_0 hI hb n1 n2 rfl hm hK
    · exact T_sheet_1 hI hb n1 n2 rfl hm hK
    · exact T_sheet_2 hI hb n1 n2 rfl hm hK
    · exact T_sheet_3 hI hb n1 n2 rfl hm hK
  · have b0 : ¬ b = 0 := fun q => hb (Or.inl q)
    have b1 : ¬ b = 8 := fun q => hb (Or.inr (Or.inl q))
    have b2 : ¬ b = 16 := fun q => hb (Or.inr (Or.inr (Or.inl q)))
    have b3 : ¬ b = 32 := fun q => hb (Or.inr (Or.inr (Or.inr q)))
    refine unl (bfT rfl ?_)
    repeat' (first | refine brT (by assumption) ?_ | refine brF (by assumption) ?_ | refine br (fun q => ?_) (fun q => ?_))
    all_goals (refine x_tell0 ?_; refine (hm _ _).trans ?_; refine unl (bfT rfl ?_); (repeat' (first | refine brF c10 ?_ | refine brT c00 ?_ | refine brF c01 ?_ | refine brT c11 ?_ | refine brT (by assumption) ?_ | refine brF (by assumption) ?_)); refine e_find0 ?_; exact hK _ _ _ rfl (Inv_tell hI (by decide)))
