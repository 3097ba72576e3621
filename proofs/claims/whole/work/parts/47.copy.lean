/-! copy -/
def hrV (S f n : Int32) : Int32 := if f < 0 then 0 else if n < 0 then 0 else if S < n then 0 else if S - n < f then 0 else 1
set_option maxRecDepth 100000 in
theorem x_hasRow {μ : Mem} {k : Rtn} {X : Option Rz} {j : Nat} {f n : Int32} (hj : j < 4) (hk : k (some (.int (hrV (μ (40 + (nI j).toNatClampNeg) 1) f n))) μ = X) : S_X2_hasRow [.ref (40 + (nI j).toNatClampNeg), .int f, .int n] μ k = X := by
  rw [← hk]
  unfold hrV
  refine brk (fun h => rfl) (fun h => ?_)
  refine brk (fun h => rfl) (fun h => ?_)
  refine (@bfT _ _ _ _ _ (kdS hj)) ?_
  refine brk (fun h => rfl) (fun h => ?_)
  refine (@bfT _ _ _ _ _ (kdS hj)) ?_
  refine brk (fun h => rfl) (fun h => ?_)
  rfl
theorem hr_cases {S : Nat} (hS : S ≤ 40) (f n : Int32) : (hrV (nI S) f n = 0 ∧ (f < 0 ∨ n < 0 ∨ 0 < lg_cmp (f.toInt64 + n.toInt64) (nI S).toInt64)) ∨ (¬ hrV (nI S) f n = 0 ∧ ∃ a b : Nat, f = nI a ∧ n = nI b ∧ a + b ≤ S ∧ ¬ 0 < lg_cmp (f.toInt64 + n.toInt64) (nI S).toInt64) := by
  unfold hrV
  by_cases h1 : f < 0
  · rw [if_pos h1]; exact Or.inl ⟨rfl, Or.inl h1⟩
  · rw [if_neg h1]
    by_cases h2 : n < 0
    · rw [if_pos h2]; exact Or.inl ⟨rfl, Or.inr (Or.inl h2)⟩
    · rw [if_neg h2]
      obtain ⟨a, ha, rfl⟩ := nI_of h1
      obtain ⟨b, hb, rfl⟩ := nI_of h2
      rw [nI_l ha, nI_l hb, nI_l (show S < 2 ^ 31 by omega), lN_add, lg_cmp_gt, pk_lLT (by omega) (by omega)]
      by_cases h3 : S < b
      · rw [if_pos (nI_lt h3 hb)]
        exact Or.inl ⟨rfl, Or.inr (Or.inr (by omega))⟩
      · rw [if_neg (nI_nlt (by omega) (by omega)), pk_sub (by omega)]
        by_cases h4 : S - b < a
        · rw [if_pos (nI_lt h4 ha)]
          exact Or.inl ⟨rfl, Or.inr (Or.inr (by omega))⟩
        · rw [if_neg (nI_nlt (by omega) (by omega))]
          exact Or.inr ⟨by decide, a, b, rfl, rfl, by omega, by omega⟩
theorem cpy_s (f g : Nat → Int32) (sp dp i : Nat) : upf (va_cpy f g sp dp i) (dp + i) (f (sp + i)) = va_cpy f g sp dp (i + 1) := by
  funext p
  by_cases e : p = dp + i
  · subst e
    rw [upf_at]
    unfold va_cpy
    rw [if_pos (by omega), show dp + i - dp = i by omega]
  · rw [upf_ne _ _ e]
    unfold va_cpy
    by_cases h : dp ≤ p ∧ p < dp + i
    · rw [if_pos h, if_pos (by omega)]
    · rw [if_neg h, if_neg (by omega)]
theorem cpy_0 (f g : Nat → Int32) (sp dp : Nat) : va_cpy f g sp dp 0 = g := by
  funext p
  unfold va_cpy
  rw [if_neg (by omega)]
theorem ix40f (j a i : Nat) : (40 : Int32) * nI j + nI a + nI i = nI (40 * j + a + i) := by rw [ix40, nI_add]
set_option maxRecDepth 100000 in
theorem copyM2 {k : Rtn} {X : Option Rz} {μ : Mem} {f0 s0 : Int32} {t To N : Nat} (M : Nat → Int32) (ht : t < 4) (hN : To + N ≤ 40) (hM : ∀ i, i < N → μ 59 i = M i) (hk : ∀ ν, ν = up1 μ 58 (va_cpy M (μ 58) 0 (40 * t + To) N) → k (some (.int (nI N))) ν = X) :
    ∀ (m i f : Nat) (x : Int32) (ν : Mem), i + m = N → 40 * m + 40 ≤ f → x = nI i → ν = up1 μ 58 (va_cpy M (μ 58) 0 (40 * t + To) i) → lockO (oILd 6 167) 0 (runK P_X5_copy f k) k [some (.ref 49), some (.int s0), some (.int f0), some (.int (nI t)), some (.int (nI To)), some (.int (nI N)), some (.int x)] [] ν = X := by
  intro m
  induction m with
  | zero =>
    intro i f x ν hi hf hx hν
    have ei : i = N := by omega
    subst hx; subst ei
    obtain ⟨f2, rfl⟩ : ∃ f2, f = f2 + 40 := ⟨f - 40, by omega⟩
    refine unO ?_
    refine brF (nI_nlt (Nat.le_refl i) (by omega)) ?_
    exact hk _ hν
  | succ m ih =>
    intro i f x ν hi hf hx hν
    subst hx
    obtain ⟨f2, rfl⟩ : ∃ f2, f = f2 + 40 := ⟨f - 40, by omega⟩
    have e59 : ν 59 (nI i).toNatClampNeg = M i := by
      rw [nI_cl (by omega), hν, up1_ne _ _ (by decide)]
      exact hM i (by omega)
    have hin : inB ((40 : Int32) * nI t + nI To + nI i) 160 = true := by rw [ix40f]; exact inB_nI (by omega) (by decide)
    have hcl : ((40 : Int32) * nI t + nI To + nI i).toNatClampNeg = 40 * t + To + i := by rw [ix40f, nI_cl (by omega)]
    refine unO ?_
    refine brT (nI_lt (a := i) (b := N) (by omega) (by omega)) ?_
    refine (@bfT _ _ _ _ _ (inB_nI (n := i) (L := 40) (by omega) (by decide))) ?_
    refine (@bfT _ _ _ _ _ (hin)) ?_
    refine ih (i + 1) _ _ _ (by omega) (by omega) (nI_succ i).symm ?_
    show up2 ν 58 ((40 : Int32) * nI t + nI To + nI i).toNatClampNeg (ν 59 (nI i).toNatClampNeg) = _
    rw [hcl, e59, hν, up2_up1, ← cpy_s, Nat.zero_add]
set_option maxRecDepth 100000 in
theorem copyM1 {k : Rtn} {X : Option Rz} {μ : Mem} {s t F To N : Nat} (hs : s < 4) (ht : t < 4) (hF : F + N ≤ 40) (hN : To + N ≤ 40) (hk : ∀ ν, ν 58 = va_cpy (μ 58) (μ 58) (40 * s + F) (40 * t + To) N → (∀ i, ¬ i = 58 → ¬ i = 59 → ν i = μ i) → k (some (.int (nI N))) ν = X) :
    ∀ (m i f : Nat) (x : Int32) (ν : Mem), i + m = N → 40 * m + 2000 ≤ f → x = nI i → ν = up1 μ 59 (va_cpy (μ 58) (μ 59) (40 * s + F) 0 i) → lockO (oILd 6 130) 0 (runK P_X5_copy f k) k [some (.ref 49), some (.int (nI s)), some (.int (nI F)), some (.int (nI t)), some (.int (nI To)), some (.int (nI N)), some (.int x)] [] ν = X := by
  intro m
  induction m with
  | zero =>
    intro i f x ν hi hf hx hν
    have ei : i = N := by omega
    subst hx; subst ei
    obtain ⟨f2, rfl⟩ : ∃ f2, f = f2 + 2000 := ⟨f - 2000, by omega⟩
    have e58 : ν 58 = μ 58 := by rw [hν, up1_ne _ _ (by decide)]
    refine unO ?_
    refine brF (nI_nlt (Nat.le_refl i) (by omega)) ?_
    refine copyM2 (μ := ν) (fun p => μ 58 (40 * s + F + p)) ht hN (fun j hj => ?_) (fun ν2 e2 => ?_) i 0 _ _ _ (by omega) (by omega) rfl (by rw [cpy_0]; exact (up1_self ν 58).symm)
    · rw [hν, up1_at]
      unfold va_cpy
      rw [if_pos (by omega), Nat.sub_zero]
    · refine hk _ ?_ (fun j p q => ?_)
      · rw [e2, up1_at, e58]
        funext p
        unfold va_cpy
        by_cases h : 40 * t + To ≤ p ∧ p < 40 * t + To + i
        · rw [if_pos h, if_pos h, Nat.zero_add]
        · rw [if_neg h, if_neg h]
      · rw [e2, up1_ne _ _ p, hν, up1_ne _ _ q]
  | succ m ih =>
    intro i f x ν hi hf hx hν
    subst hx
    obtain ⟨f2, rfl⟩ : ∃ f2, f = f2 + 2000 := ⟨f - 2000, by omega⟩
    have hin : inB ((40 : Int32) * nI s + nI F + nI i) 160 = true := by rw [ix40f]; exact inB_nI (by omega) (by decide)
    have hcl : ((40 : Int32) * nI s + nI F + nI i).toNatClampNeg = 40 * s + F + i := by rw [ix40f, nI_cl (by omega)]
    have e58 : ν 58 = μ 58 := by rw [hν, up1_ne _ _ (by decide)]
    refine unO ?_
    refine brT (nI_lt (a := i) (b := N) (by omega) (by omega)) ?_
    refine (@bfT _ _ _ _ _ (hin)) ?_
    refine (@bfT _ _ _ _ _ (inB_nI (n := i) (L := 40) (by omega) (by decide))) ?_
    refine ih (i + 1) _ _ _ (by omega) (by omega) (nI_succ i).symm ?_
    show up2 ν 59 (nI i).toNatClampNeg (ν 58 ((40 : Int32) * nI s + nI F + nI i).toNatClampNeg) = _
    rw [hcl, e58, nI_cl (by omega), hν, up2_up1, ← cpy_s, Nat.zero_add]
theorem Inv_copy {μ ν : Mem} (hI : Inv μ) {s t F To N : Nat} (hs : s < 4) (ht : t < 4) (hF : F + N ≤ 40) (hN : To + N ≤ 40) (e1 : ν (44 + t) = va_cpy (μ (44 + s)) (μ (44 + t)) F To N) (e2 : ν 58 = va_cpy (μ 58) (μ 58) (40 * s + F) (40 * t + To) N) (hh : ∀ i, ¬ i = 44 + t → ¬ i = 58 → ¬ i = 59 → ν i = μ i) : Inv ν := by
  refine Inv_sheet hI (fun i a b => hh i (by omega) (by omega) (by omega)) (fun q hq => ?_)
  have i4 := hI.2.2.2.1
  obtain ⟨a1, a2, a3, a4, a5⟩ := i4 q hq
  rw [hh (40 + q) (by omega) (by omega) (by omega), hh 56 (by omega) (by decide) (by decide), hh 57 (by omega) (by decide) (by decide)]
  refine ⟨a1, a2, a3, a4, fun j hj => ?_⟩
  rw [e2]
  by_cases z : q = t
  · subst z
    rw [e1]
    unfold va_cpy
    by_cases h : To ≤ j ∧ j < To + N
    · rw [if_pos h, if_pos (by omega)]
      have := (i4 s hs).2.2.2.2 (F + (j - To)) (by omega)
      rw [this]
      congr 1
      omega
    · rw [if_neg h, if_neg (by omega)]
      exact a5 j hj
  · rw [hh (44 + q) (by omega) (by omega) (by omega)]
    unfold va_cpy
    rw [if_neg (by omega)]
    exact a5 j hj
theorem okC {s t : Nat} (hs : s < 4) (ht : t < 4) {r : List Value} (hr : Nat.ble (rsum r) 8 = true) : (Nat.beq (kd (rfOf (40 + (nI s).toNatClampNeg) 2)) 6 && (Nat.beq (kd (rfOf (40 + (nI t).toNatClampNeg) 2)) 6 && Nat.ble (rsum r) 8)) = true := by
  rw [kdN hs, kdN ht, hr]; rfl
theorem okL {s a b : Nat} (hs : s < 4) (h : a + b ≤ 40) : Nat.blt (lenOf (rfOf (40 + (nI s).toNatClampNeg) 2)) ((nI a).toNatClampNeg + (nI b).toNatClampNeg) = false := by
  rw [lenN hs, nI_cl (by omega), nI_cl (by omega)]
  exact bleF (by omega)
theorem dnl {n : Nat} (h : n < 100000) : decide (nI n < 0) = false := decide_eq_false (nI_nl h)
set_option maxRecDepth 100000 in
theorem T_copy {μ : Mem} {k1 : Rtn} {K : Int32 → Rtn} {X : Option Rz} (hI : Inv μ) {s f t g n : Int32} (hm : ∀ z μ1, k1 (some (.int z)) μ1 = S_X5_copy [.ref 49, .int s, .int f, .int t, .int g, .int n] μ1 (K z)) (hK : ∀ v w μ2, v = w → Inv μ2 → K v (some (.int w)) μ2 = X) : S_X4_copy [.ref 0, .int s, .int f, .int t, .int g, .int n] μ k1 = X := by
  by_cases s1 : s < 0
  · refine unl (bfT rfl ?_)
    repeat' (first | refine brT (by assumption) ?_ | refine brF (by assumption) ?_ | refine br (fun q => ?_) (fun q => ?_))
    all_goals (refine x_tell0 ?_; refine (hm _ _).trans ?_; refine unl (bfT rfl ?_); (repeat' (first | refine brF c10 ?_ | refine brT c00 ?_ | refine brF c01 ?_ | refine brT c11 ?_ | refine brT (by assumption) ?_ | refine brF (by assumption) ?_)); refine e_find0 ?_; exact hK _ _ _ rfl (Inv_tell hI (by decide)))
  by_cases s2 : 3 < s
  · refine unl (bfT rfl ?_)
    repeat' (first | refine brT (by assumption) ?_ | refine brF (by assumption) ?_ | refine br (fun q => ?_) (fun q => ?_))
    all_goals (refine x_tell0 ?_; refine (hm _ _).trans ?_; refine unl (bfT rfl ?_); (repeat' (first | refine brF c10 ?_ | refine brT c00 ?_ | refine brF c01 ?_ | refine brT c11 ?_ | refine brT (by assumption) ?_ | refine brF (by assumption) ?_)); refine e_find0 ?_; exact hK _ _ _ rfl (Inv_tell hI (by decide)))
  by_cases t1 : t < 0
  · refine unl (bfT rfl ?_)
    repeat' (first | refine brT (by assumption) ?_ | refine brF (by assumption) ?_ | refine br (fun q => ?_) (fun q => ?_))
    all_goals (refine x_tell0 ?_; refine (hm _ _).trans ?_; refine unl (bfT rfl ?_); (repeat' (first | refine brF c10 ?_ | refine brT c00 ?_ | refine brF c01 ?_ | refine brT c11 ?_ | refine brT (by assumption) ?_ | refine brF (by assumption) ?_)); refine e_find0 ?_; exact hK _ _ _ rfl (Inv_tell hI (by decide)))
  by_cases t2 : 3 < t
  · refine unl (bfT rfl ?_)
    repeat' (first | refine brT (by assumption) ?_ | refine brF (by assumption) ?_ | refine br (fun q => ?_) (fun q => ?_))
    all_goals (refine x_tell0 ?_; refine (hm _ _).trans ?_; refine unl (bfT rfl ?_); (repeat' (first | refine brF c10 ?_ | refine brT c00 ?_ | refine brF c01 ?_ | refine brT c11 ?_ | refine brT (by assumption) ?_ | refine brF (by assumption) ?_)); refine e_find0 ?_; exact hK _ _ _ rfl (Inv_tell hI (by decide)))
  obtain ⟨js, hjs, rfl⟩ := nlt_VB (n := 3) (x := s) (by decide) s1 s2
  obtain ⟨jt, hjt, rfl⟩ := nlt_VB (n := 3) (x := t) (by decide) t1 t2
  have hs : js < 4 := by omega
  have ht : jt < 4 := by omega
  have inS : inB (nI js) 4 = true := inB_nI hs (by decide)
  have inT : inB (nI jt) 4 = true := inB_nI ht (by decide)
  obtain ⟨a1, a2, ⟨S1, hS1, a4⟩, a5⟩ := shF hI.2.2.2.1 hs
  obtain ⟨b1, b2, ⟨S2, hS2, b4⟩, b5⟩ := shF hI.2.2.2.1 ht
  by_cases w0 : μ 56 (nI js).toNatClampNeg = 0
  · have w1 : μ (40 + (nI js).toNatClampNeg) 0 = 0 := a1.trans w0
    refine unl (bfT rfl ?_)
    refine brF s1 ?_
    refine brF s2 ?_
    refine brF t1 ?_
    refine brF t2 ?_
    refine (@bfT _ _ _ _ _ (inS)) ?_
    refine (@bfT _ _ _ _ _ (inT)) ?_
    refine (@bfT _ _ _ _ _ (kdS hs)) ?_
    refine (@bfT _ _ _ _ _ (kdS hs)) ?_
    refine brT w1 ?_
    refine x_tell5 ?_
    refine (hm _ _).trans ?_
    refine unl (bfT rfl ?_)
    refine brF s1 ?_
    refine brF s2 ?_
    refine brF t1 ?_
    refine brF t2 ?_
    refine (@bfT _ _ _ _ _ (inS)) ?_
    refine brT w0 ?_
    refine e_find5 ?_
    exact hK _ _ _ rfl (Inv_tell hI (by decide))
  have w1 : ¬ μ (40 + (nI js).toNatClampNeg) 0 = 0 := fun q => w0 (a1.symm.trans q)
  by_cases v0 : μ 56 (nI jt).toNatClampNeg = 0
  · have v1 : μ (40 + (nI jt).toNatClampNeg) 0 = 0 := b1.trans v0
    refine unl (bfT rfl ?_)
    refine brF s1 ?_
    refine brF s2 ?_
    refine brF t1 ?_
    refine brF t2 ?_
    refine (@bfT _ _ _ _ _ (inS)) ?_
    refine (@bfT _ _ _ _ _ (inT)) ?_
    refine (@bfT _ _ _ _ _ (kdS hs)) ?_
    refine (@bfT _ _ _ _ _ (kdS hs)) ?_
    refine brF w1 ?_
    refine (@bfT _ _ _ _ _ (kdS ht)) ?_
    refine (@bfT _ _ _ _ _ (kdS ht)) ?_
    refine brT v1 ?_
    refine x_tell5 ?_
    refine (hm _ _).trans ?_
    refine unl (bfT rfl ?_)
    refine brF s1 ?_
    refine brF s2 ?_
    refine brF t1 ?_
    refine brF t2 ?_
    refine (@bfT _ _ _ _ _ (inS)) ?_
    refine brF w0 ?_
    refine (@bfT _ _ _ _ _ (inT)) ?_
    refine brT v0 ?_
    refine e_find5 ?_
    exact hK _ _ _ rfl (Inv_tell hI (by decide))
  have v1 : ¬ μ (40 + (nI jt).toNatClampNeg) 0 = 0 := fun q => v0 (b1.symm.trans q)
  by_cases k0 : μ 56 (nI js).toNatClampNeg = μ 56 (nI jt).toNatClampNeg
  rotate_left
  · have k2 : ¬ μ (40 + (nI js).toNatClampNeg) 0 = μ (40 + (nI jt).toNatClampNeg) 0 := by rw [a1, b1]; exact k0
    refine unl (bfT rfl ?_)
    refine brF s1 ?_
    refine brF s2 ?_
    refine brF t1 ?_
    refine brF t2 ?_
    refine (@bfT _ _ _ _ _ (inS)) ?_
    refine (@bfT _ _ _ _ _ (inT)) ?_
    refine (@bfT _ _ _ _ _ (kdS hs)) ?_
    refine (@bfT _ _ _ _ _ (kdS hs)) ?_
    refine brF w1 ?_
    refine (@bfT _ _ _ _ _ (kdS ht)) ?_
    refine (@bfT _ _ _ _ _ (kdS ht)) ?_
    refine brF v1 ?_
    refine (@bfT _ _ _ _ _ (kdS hs)) ?_
    refine (@bfT _ _ _ _ _ (kdS ht)) ?_
    refine brF k2 ?_
    refine x_tell2 ?_
    refine (hm _ _).trans ?_
    refine unl (bfT rfl ?_)
    refine brF s1 ?_
    refine brF s2 ?_
    refine brF t1 ?_
    refine brF t2 ?_
    refine (@bfT _ _ _ _ _ (inS)) ?_
    refine brF w0 ?_
    refine (@bfT _ _ _ _ _ (inT)) ?_
    refine brF v0 ?_
    refine (@bfT _ _ _ _ _ (inS)) ?_
    refine (@bfT _ _ _ _ _ (inT)) ?_
    refine brF k0 ?_
    refine e_find2 ?_
    exact hK _ _ _ rfl (Inv_tell hI (by decide))
  have k2 : μ (40 + (nI js).toNatClampNeg) 0 = μ (40 + (nI jt).toNatClampNeg) 0 := by rw [a1, b1]; exact k0
  have hB : ∀ ν, ν 57 = μ 57 → ν 56 = μ 56 → ν 50 = μ 50 → (f < 0 ∨ g < 0 ∨ n < 0 ∨ 0 < lg_cmp (f.toInt64 + n.toInt64) (μ 57 (nI js).toNatClampNeg).toInt64 ∨ 0 < lg_cmp (g.toInt64 + n.toInt64) (μ 57 (nI jt).toNatClampNeg).toInt64) → ∀ kk : Rtn, kk (some (.int (-1000001))) (fndM ν 0) = X → S_X5_copy [.ref 49, .int (nI js), .int f, .int (nI jt), .int g, .int n] ν kk = X := by
    intro ν e57 e56 e50 hbad kk hkk
    have w2 : ¬ ν 56 (nI js).toNatClampNeg = 0 := by rw [e56]; exact w0
    have v2 : ¬ ν 56 (nI jt).toNatClampNeg = 0 := by rw [e56]; exact v0
    have k3 : ν 56 (nI js).toNatClampNeg = ν 56 (nI jt).toNatClampNeg := by rw [e56]; exact k0
    rw [← e57] at hbad
    refine unl (bfT rfl ?_)
    refine brF s1 ?_
    refine brF s2 ?_
    refine brF t1 ?_
    refine brF t2 ?_
    refine (@bfT _ _ _ _ _ (inS)) ?_
    refine brF w2 ?_
    refine (@bfT _ _ _ _ _ (inT)) ?_
    refine brF v2 ?_
    refine (@bfT _ _ _ _ _ (inS)) ?_
    refine (@bfT _ _ _ _ _ (inT)) ?_
    refine brT k3 ?_
    by_cases f1 : f < 0
    · refine brT f1 ?_
      exact e_find0 hkk
    refine brF f1 ?_
    by_cases g1 : g < 0
    · refine brT g1 ?_
      exact e_find0 hkk
    refine brF g1 ?_
    by_cases n1 : n < 0
    · refine brT n1 ?_
      exact e_find0 hkk
    refine brF n1 ?_
    refine (@bfT _ _ _ _ _ (inS)) ?_
    by_cases l1 : 0 < lg_cmp (f.toInt64 + n.toInt64) (ν 57 (nI js).toNatClampNeg).toInt64
    · refine brT l1 ?_
      exact e_find0 hkk
    refine brF l1 ?_
    refine (@bfT _ _ _ _ _ (inT)) ?_
    by_cases l2 : 0 < lg_cmp (g.toInt64 + n.toInt64) (ν 57 (nI jt).toNatClampNeg).toInt64
    · refine brT l2 ?_
      exact e_find0 hkk
    exfalso
    rcases hbad with q | q | q | q | q
    · exact f1 q
    · exact g1 q
    · exact n1 q
    · exact l1 q
    · exact l2 q
  have c1 := hr_cases hS1 f n
  have c2 := hr_cases hS2 g n
  rw [← a4] at c1
  rw [← b4] at c2
  rw [← a2] at c1
  rw [← b2] at c2
  refine unl (bfT rfl ?_)
  refine brF s1 ?_
  refine brF s2 ?_
  refine brF t1 ?_
  refine brF t2 ?_
  refine (@bfT _ _ _ _ _ (inS)) ?_
  refine (@bfT _ _ _ _ _ (inT)) ?_
  refine (@bfT _ _ _ _ _ (kdS hs)) ?_
  refine (@bfT _ _ _ _ _ (kdS hs)) ?_
  refine brF w1 ?_
  refine (@bfT _ _ _ _ _ (kdS ht)) ?_
  refine (@bfT _ _ _ _ _ (kdS ht)) ?_
  refine brF v1 ?_
  refine (@bfT _ _ _ _ _ (kdS hs)) ?_
  refine (@bfT _ _ _ _ _ (kdS ht)) ?_
  refine brT k2 ?_
  refine (@bfT _ _ _ _ _ (kdS hs)) ?_
  refine x_hasRow hs ?_
  rcases c1 with ⟨c0, c3⟩ | ⟨c0, F, N, rfl, rfl, c4, c5⟩
  · refine brT c0 ?_
    refine x_tell0 ?_
    refine (hm _ _).trans ?_
    refine hB (telM μ 0) rfl rfl rfl ?_ _ (hK _ _ _ rfl (Inv_tell hI (by decide)))
    rw [← a2]
    rcases c3 with q | q | q
    · exact Or.inl q
    · exact Or.inr (Or.inr (Or.inl q))
    · exact Or.inr (Or.inr (Or.inr (Or.inl q)))
  refine brF c0 ?_
  refine (@bfT _ _ _ _ _ (kdS ht)) ?_
  refine x_hasRow ht ?_
  rcases c2 with ⟨d0, d3⟩ | ⟨d0, To, N2, rfl, eN, d4, d5⟩
  · refine brT d0 ?_
    refine x_tell0 ?_
    refine (hm _ _).trans ?_
    refine hB (telM μ 0) rfl rfl rfl ?_ _ (hK _ _ _ rfl (Inv_tell hI (by decide)))
    rw [← b2]
    rcases d3 with q | q | q
    · exact Or.inr (Or.inl q)
    · exact Or.inr (Or.inr (Or.inl q))
    · exact Or.inr (Or.inr (Or.inr (Or.inr q)))
  refine brF d0 ?_
  have eN2 : N = N2 ∨ ¬ N2 < 2 ^ 31 := by
    by_cases z : N2 < 2 ^ 31
    · exact Or.inl ((nI_eq (by omega) z).mp eN)
    · exact Or.inr z
  have eN3 : N = N2 := by omega
  subst eN3
  refine (@bfT _ _ _ _ _ (kdS hs)) ?_
  refine (@bfT _ _ _ _ _ (kdS ht)) ?_
  refine (@bfT _ _ _ _ _ (okC hs ht rfl)) ?_
  refine (@bfF _ _ _ _ _ (dnl (n := F) (by omega))) ?_
  refine (@bfF _ _ _ _ _ (dnl (n := To) (by omega))) ?_
  refine (@bfF _ _ _ _ _ (dnl (n := N) (by omega))) ?_
  refine (@bfF _ _ _ _ _ (okL hs (show F + N ≤ 40 by omega))) ?_
  refine (@bfF _ _ _ _ _ (okL ht (show To + N ≤ 40 by omega))) ?_
  refine (hm _ _).trans ?_
  have hM : ∀ ν, ν = up1 μ (44 + jt) (va_cpy (μ (44 + js)) (μ (44 + jt)) F To N) → S_X5_copy [.ref 49, .int (nI js), .int (nI F), .int (nI jt), .int (nI To), .int (nI N)] ν (K (nI N)) = X := by
    intro ν hν
    have eo : ∀ i, ¬ i = 44 + jt → ν i = μ i := fun i q => by rw [hν, up1_ne _ _ q]
    have w2 : ¬ ν 56 (nI js).toNatClampNeg = 0 := by rw [eo 56 (by omega)]; exact w0
    have v2 : ¬ ν 56 (nI jt).toNatClampNeg = 0 := by rw [eo 56 (by omega)]; exact v0
    have k3 : ν 56 (nI js).toNatClampNeg = ν 56 (nI jt).toNatClampNeg := by rw [eo 56 (by omega)]; exact k0
    have l1 : ¬ 0 < lg_cmp ((nI F).toInt64 + (nI N).toInt64) (ν 57 (nI js).toNatClampNeg).toInt64 := by rw [eo 57 (by omega), ← a2]; exact c5
    have l2 : ¬ 0 < lg_cmp ((nI To).toInt64 + (nI N).toInt64) (ν 57 (nI jt).toNatClampNeg).toInt64 := by rw [eo 57 (by omega), ← b2]; exact d5
    refine unl (bfT rfl ?_)
    refine brF s1 ?_
    refine brF s2 ?_
    refine brF t1 ?_
    refine brF t2 ?_
    refine (@bfT _ _ _ _ _ (inS)) ?_
    refine brF w2 ?_
    refine (@bfT _ _ _ _ _ (inT)) ?_
    refine brF v2 ?_
    refine (@bfT _ _ _ _ _ (inS)) ?_
    refine (@bfT _ _ _ _ _ (inT)) ?_
    refine brT k3 ?_
    refine brF (nI_nl (n := F) (by omega)) ?_
    refine brF (nI_nl (n := To) (by omega)) ?_
    refine brF (nI_nl (n := N) (by omega)) ?_
    refine (@bfT _ _ _ _ _ (inS)) ?_
    refine brF l1 ?_
    refine (@bfT _ _ _ _ _ (inT)) ?_
    refine brF l2 ?_
    refine copyM1 (μ := ν) hs ht (by omega) (by omega) (fun ν2 e58 eo2 => ?_) N 0 _ _ _ (by omega) (Nat.le_trans (show _ ≤ 3600 by omega) (Nat.le_of_ble_eq_true rfl)) rfl (by rw [cpy_0]; exact (up1_self ν 59).symm)
    refine hK _ _ _ rfl (Inv_copy hI hs ht (show F + N ≤ 40 by omega) (show To + N ≤ 40 by omega) ?_ ?_ (fun i p q r => ?_))
    · rw [eo2 (44 + jt) (by omega) (by omega), hν, up1_at]
    · rw [e58, eo 58 (by omega)]
    · rw [eo2 i q r]; exact eo i p
  refine hM _ ?_
  show up1 μ (rfOf (40 + (nI jt).toNatClampNeg) 2) (va_cpy (μ (rfOf (40 + (nI js).toNatClampNeg) 2)) (μ (rfOf (40 + (nI jt).toNatClampNeg) 2)) (nI F).toNatClampNeg (nI To).toNatClampNeg (nI N).toNatClampNeg) = _
  rw [rfN hs, rfN ht, nI_cl (show F < 100000 by omega), nI_cl (show To < 100000 by omega), nI_cl (show N < 100000 by omega)]
