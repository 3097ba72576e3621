/-! toss, odds -/
def dz (z : Int32) : Int32 := z * 1103515245 + 12345
def dv (z : Int32) : Int32 := (z.toUInt32 >>> ((8 : Int32).toUInt32 &&& Int32.toUInt32 31)).toInt32
def tsR (r : Nat → Int32) : Nat → Int32 := upf (upf (upf (upf (upf r 2 (dz (r 2))) 2 (dz (dz (r 2)))) (6 + (r 0 % 6).toNatClampNeg) (10 * (dv (dz (r 2)) % 8) + dv (dz (dz (r 2))) % 8)) 2 (dz (dz (dz (r 2))))) 3 (1 + dv (dz (dz (dz (r 2)))) % 60)
def itT : Nat → (Nat → Int32) → Nat → Int32
  | 0, r => r
  | n + 1, r => dropR (tsR (itT n r))
theorem G1_z {r : Nat → Int32} (hG : G1 r) (v : Int32) : G1 (upf r 2 v) := G1_own hG (by decide) (by decide) (nf rfl) (nf rfl) (nf rfl)
theorem G1_ts {r : Nat → Int32} (hG : G1 r) : G1 (tsR r) := by
  obtain ⟨t, ht, t1, -⟩ := hG.t6
  unfold tsR
  rw [t1, nI_cl (by omega)]
  exact G1_h (G1_z (G1_l (G1_z (G1_z hG _) _) ht _) _) _
theorem ts_1 (r : Nat → Int32) : tsR r 1 = r 1 := by
  unfold tsR
  rw [upf_ne _ _ (by omega), upf_ne _ _ (by omega), upf_ne _ _ (by omega), upf_ne _ _ (by omega), upf_ne _ _ (by omega)]
theorem G1_itT {r : Nat → Int32} (hG : G1 r) (n : Nat) : G1 (itT n r) := by
  induction n with
  | zero => exact hG
  | succ n ih => exact G1_drop (G1_ts ih)
theorem itT_1 {r : Nat → Int32} (hG : G1 r) (n : Nat) : itT n r 1 = r 1 := by
  induction n with
  | zero => rfl
  | succ n ih => exact (drop_1 (G1_ts (G1_itT hG n))).trans ((ts_1 _).trans ih)
set_option maxRecDepth 100000 in
theorem x_draw {μ : Mem} {k : Rtn} {X : Option Rz} (hk : ∀ μ', μ' = up2 μ 1 4 (dz (μ 1 4)) → k (some (.int (dv (dz (μ 1 4))))) μ' = X) : S_X0_draw [.ref 1] μ k = X := by
  refine unl (bfT rfl ?_)
  exact hk _ rfl
set_option maxRecDepth 100000 in
theorem e_drawn {μ : Mem} {k : Rtn} {X : Option Rz} (hk : ∀ μ', μ' = up2 μ 50 2 (dz (μ 50 2)) → k (some (.int (dv (dz (μ 50 2))))) μ' = X) : S_X5_drawn [.ref 49] μ k = X := by
  refine unl (bfT rfl ?_)
  exact hk _ rfl
theorem rep_2 {ν μ1 μ2 : Mem} {R : Nat → Int32} (hR : Rep ν 1 R) (m1 : μ1 = up2 ν 1 4 (dz (ν 1 4))) (m2 : μ2 = up2 μ1 1 4 (dz (μ1 1 4))) : Rep μ2 1 (upf (upf R 2 (dz (R 2))) 2 (dz (dz (R 2)))) ∧ ν 1 4 = R 2 ∧ μ1 1 4 = dz (R 2) ∧ μ2 1 4 = dz (dz (R 2)) ∧ μ2 1 3 = R 0 := by
  have z0 : ν 1 4 = R 2 := hR.1.2.2.1
  rw [z0] at m1
  have e1 : μ1 1 4 = dz (R 2) := by rw [m1]; rfl
  rw [e1] at m2
  have e2 : μ2 1 4 = dz (dz (R 2)) := by rw [m2]; rfl
  have r1 : Rep μ1 1 (upf R 2 (dz (R 2))) := by rw [m1]; exact rep_own (k := 4) ⟨by decide, by decide⟩ hR (by decide)
  have r2 : Rep μ2 1 (upf (upf R 2 (dz (R 2))) 2 (dz (dz (R 2)))) := by rw [m2]; exact rep_own (k := 4) ⟨by decide, by decide⟩ r1 (by decide)
  exact ⟨r2, z0, e1, e2, r2.1.1⟩
theorem toss_in {ν μ1 μ2 : Mem} {R : Nat → Int32} (hR : Rep ν 1 R) (hG : G1 R) (m1 : μ1 = up2 ν 1 4 (dz (ν 1 4))) (m2 : μ2 = up2 μ1 1 4 (dz (μ1 1 4))) : inB (μ2 1 3 % 6) 6 = true := LX_in (rep_2 hR m1 m2).1 (G1_z (G1_z hG _) _)
theorem rep_toss {ν μ1 μ2 M μ3 : Mem} {R : Nat → Int32} (hR : Rep ν 1 R) (hG : G1 R) (m1 : μ1 = up2 ν 1 4 (dz (ν 1 4))) (m2 : μ2 = up2 μ1 1 4 (dz (μ1 1 4))) (mM : M = up2 μ2 4 (μ2 1 3 % 6).toNatClampNeg (10 * (dv (dz (ν 1 4)) % 8) + dv (dz (μ1 1 4)) % 8)) (m3 : μ3 = up2 M 1 4 (dz (M 1 4))) : Rep (up2 μ3 1 0 (1 + dv (dz (M 1 4)) % 60)) 1 (tsR R) ∧ Fr 1 ν (up2 μ3 1 0 (1 + dv (dz (M 1 4)) % 60)) := by
  obtain ⟨t, ht, t1, -⟩ := hG.t6
  obtain ⟨r2, z0, e1, e2, e3⟩ := rep_2 hR m1 m2
  have f2 : Fr 1 ν μ2 := by
    rw [m2]
    refine Fr.tr ?_ (Fr.up2 (Or.inl rfl))
    rw [m1]
    exact Fr.up2 (Or.inl rfl)
  rw [e3, t1, nI_cl (by omega), z0, e1] at mM
  have eM : M 1 4 = dz (dz (R 2)) := by rw [mM, up2_ne _ _ (by decide)]; exact e2
  have rM : Rep M 1 (upf (upf (upf R 2 (dz (R 2))) 2 (dz (dz (R 2)))) (6 + t) (10 * (dv (dz (R 2)) % 8) + dv (dz (dz (R 2))) % 8)) := by rw [mM]; exact rep_list (c := 1) ⟨by decide, by decide⟩ r2 ht
  rw [eM] at m3 ⊢
  have r3 := rep_own (k := 4) (v := dz (dz (dz (R 2)))) ⟨by decide, by decide⟩ rM (by decide)
  rw [← m3] at r3
  refine ⟨?_, ?_⟩
  · unfold tsR
    rw [t1, nI_cl (by omega)]
    exact rep_own (k := 0) ⟨by decide, by decide⟩ r3 (by decide)
  · refine Fr.tr f2 (Fr.tr ?_ (Fr.up2 (Or.inl rfl)))
    rw [m3]
    refine Fr.tr ?_ (Fr.up2 (Or.inl rfl))
    rw [mM]
    exact Fr.up2 (Or.inr (Or.inl rfl))
set_option maxRecDepth 100000 in
theorem tossX_loop {k : Rtn} {X : Option Rz} {μ : Mem} {r : Nat → Int32} {n : Nat} (hn : n ≤ 20) (hG : G1 r) (hk : ∀ ν, Rep ν 1 (itT n r) → Fr 1 μ ν → k (some (.int (sumR (itT n r) 3 (r 1).toNatClampNeg))) ν = X) :
    ∀ (m i f : Nat) (x : Int32) (wa wb : Option Value) (ν : Mem), i + m = n → 100 * m + 100 ≤ f → x = nI i → Rep ν 1 (itT i r) → Fr 1 μ ν → lockO (oILd 2 41) 0 (runK P_X4_toss f k) k [some (.ref 0), some (.int (nI n)), some (.int x), wa, wb] [] ν = X := by
  intro m
  induction m with
  | zero =>
    intro i f x wa wb ν hi hf hxx hR hF
    have ei : i = n := by omega
    subst hxx; subst ei
    obtain ⟨f2, rfl⟩ : ∃ f2, f = f2 + 100 := ⟨f - 100, by omega⟩
    refine unO ?_
    refine brF (nI_nlt (Nat.le_refl i) (by omega)) ?_
    refine x_wrongs hR (G1_itT hG i) ?_
    rw [itT_1 hG i]
    exact hk _ hR hF
  | succ m ih =>
    intro i f x wa wb ν hi hf hxx hR hF
    subst hxx
    obtain ⟨f2, rfl⟩ : ∃ f2, f = f2 + 100 := ⟨f - 100, by omega⟩
    have hGi := G1_itT hG i
    refine unO ?_
    refine brT (nI_lt (a := i) (b := n) (by omega) (by omega)) ?_
    refine x_draw (fun μ1 m1 => ?_)
    refine x_draw (fun μ2 m2 => ?_)
    refine (@bfT _ _ _ _ _ (toss_in hR hGi m1 m2)) ?_
    refine x_draw (fun μ3 m3 => ?_)
    have hq := rep_toss hR hGi m1 m2 rfl m3
    refine x_drop_1 hq.1 (G1_ts hGi) (fun ν' r' f' => ?_)
    exact ih (i + 1) _ _ _ _ _ (by omega) (by omega) (nI_succ i).symm r' (hF.tr (hq.2.tr f'))
theorem toss_inM {ν μ1 μ2 : Mem} {R : Nat → Int32} (e : ν 50 = R) (hG : G1 R) (m1 : μ1 = up2 ν 50 2 (dz (ν 50 2))) (m2 : μ2 = up2 μ1 50 2 (dz (μ1 50 2))) : inB ((6 : Int32) + ra (μ2 50) 0 % 6) 70 = true := by
  have e2 : μ2 50 = upf (upf R 2 (dz (ν 50 2))) 2 (dz (μ1 50 2)) := by rw [m2, up2_at, m1, up2_at, e]
  rw [e2]
  exact (G1_z (G1_z hG _) _).g0.ix
theorem row_toss {ν μ1 μ2 M μ3 : Mem} {R : Nat → Int32} (e : ν 50 = R) (hG : G1 R) (m1 : μ1 = up2 ν 50 2 (dz (ν 50 2))) (m2 : μ2 = up2 μ1 50 2 (dz (μ1 50 2))) (mM : M = up2 μ2 50 ((6 : Int32) + ra (μ2 50) 0 % 6).toNatClampNeg (10 * (dv (dz (ν 50 2)) % 8) + dv (dz (μ1 50 2)) % 8)) (m3 : μ3 = up2 M 50 2 (dz (M 50 2))) : (up2 μ3 50 3 (1 + dv (dz (M 50 2)) % 60)) 50 = tsR R ∧ (∀ i, ¬ i = 50 → (up2 μ3 50 3 (1 + dv (dz (M 50 2)) % 60)) i = ν i) ∧ G0 ((up2 μ3 50 3 (1 + dv (dz (M 50 2)) % 60)) 50) := by
  have main : (up2 μ3 50 3 (1 + dv (dz (M 50 2)) % 60)) 50 = tsR R := by
    obtain ⟨t, ht, t1, t2⟩ := hG.t6
    have z0 : ν 50 2 = R 2 := by rw [e]
    have e1 : μ1 50 = upf R 2 (dz (R 2)) := by rw [m1, up2_at, e]
    have z1 : μ1 50 2 = dz (R 2) := by rw [e1]; rfl
    have e2 : μ2 50 = upf (upf R 2 (dz (R 2))) 2 (dz (dz (R 2))) := by rw [m2, up2_at, z1, e1]
    have e0 : ra (μ2 50) 0 = ra R 0 := by rw [e2]; rfl
    have eM : M 50 = upf (upf (upf R 2 (dz (R 2))) 2 (dz (dz (R 2)))) (6 + t) (10 * (dv (dz (R 2)) % 8) + dv (dz (dz (R 2))) % 8) := by
      rw [mM, up2_at, e0, t2, nI_cl (by omega), z0, z1, e2]
    have eM2 : M 50 2 = dz (dz (R 2)) := by rw [eM, upf_ne _ _ (by omega)]; rfl
    rw [up2_at, m3, up2_at, eM2, eM]
    unfold tsR
    rw [t1, nI_cl (by omega)]
  refine ⟨main, fun i hi => ?_, by rw [main]; exact (G1_ts hG).g0⟩
  rw [up2_ne _ _ hi, m3, up2_ne _ _ hi, mM, up2_ne _ _ hi, m2, up2_ne _ _ hi, m1, up2_ne _ _ hi]
set_option maxRecDepth 100000 in
theorem tossM_loop {k : Rtn} {X : Option Rz} {μ : Mem} {n : Nat} (hn : n ≤ 20) (hG : G1 (μ 50)) (hk : ∀ ν, ν 50 = itT n (μ 50) → (∀ i, ¬ i = 50 → ν i = μ i) → k (some (.int (sumR (itT n (μ 50)) 3 (μ 50 1).toNatClampNeg))) ν = X) :
    ∀ (m i f : Nat) (x : Int32) (wa wb : Option Value) (ν : Mem), i + m = n → 100 * m + 100 ≤ f → x = nI i → ν 50 = itT i (μ 50) → (∀ i, ¬ i = 50 → ν i = μ i) → lockO (oILd 2 40) 0 (runK P_X5_toss f k) k [some (.ref 49), some (.int (nI n)), some (.int x), wa, wb] [] ν = X := by
  intro m
  induction m with
  | zero =>
    intro i f x wa wb ν hi hf hxx e50 eo
    have ei : i = n := by omega
    subst hxx; subst ei
    obtain ⟨f2, rfl⟩ : ∃ f2, f = f2 + 100 := ⟨f - 100, by omega⟩
    refine unO ?_
    refine brF (nI_nlt (Nat.le_refl i) (by omega)) ?_
    refine e_sumOf (g := 3) (by decide) rfl (by rw [e50]; exact G1_itT hG i) ?_
    have h9 := hk _ e50 eo
    rw [e50, itT_1 hG i]
    exact h9
  | succ m ih =>
    intro i f x wa wb ν hi hf hxx e50 eo
    subst hxx
    obtain ⟨f2, rfl⟩ : ∃ f2, f = f2 + 100 := ⟨f - 100, by omega⟩
    have hGi := G1_itT hG i
    refine unO ?_
    refine brT (nI_lt (a := i) (b := n) (by omega) (by omega)) ?_
    refine e_drawn (fun μ1 m1 => ?_)
    refine e_drawn (fun μ2 m2 => ?_)
    refine (@bfT _ _ _ _ _ (toss_inM e50 hGi m1 m2)) ?_
    refine e_drawn (fun μ3 m3 => ?_)
    have hq := row_toss e50 hGi m1 m2 rfl m3
    refine e_drop hq.2.2 (fun ν' m' => ?_)
    refine ih (i + 1) _ _ _ _ _ (by omega) (by omega) (nI_succ i).symm ?_ ?_
    · rw [m', up1_at]; exact congrArg dropR hq.1
    · intro a p
      rw [m', up1_ne _ _ p]
      exact (hq.2.1 a p).trans (eo a p)
set_option maxRecDepth 100000 in
theorem T_toss {μ : Mem} {k1 : Rtn} {K : Int32 → Rtn} {X : Option Rz} (hI : Inv μ) {a : Int32} (hm : ∀ v μ1, k1 (some (.int v)) μ1 = S_X5_toss [.ref 49, .int a] μ1 (K v)) (hK : ∀ v w μ2, v = w → Inv μ2 → K v (some (.int w)) μ2 = X) : S_X4_toss [.ref 0, .int a] μ k1 = X := by
  have ed : μ 1 3 = μ 50 0 := hI.1.1.1.1
  by_cases g1 : a < 1
  · refine unl (bfT rfl ?_)
    repeat' (first | refine brT (by assumption) ?_ | refine brF (by assumption) ?_ | refine br (fun q => ?_) (fun q => ?_))
    refine x_tell0 ?_; refine (hm _ _).trans ?_; refine unl (bfT rfl ?_); (repeat' (first | refine brF c10 ?_ | refine brT c00 ?_ | refine brF c01 ?_ | refine brT c11 ?_ | refine brT (by assumption) ?_ | refine brF (by assumption) ?_)); refine e_find0 ?_; exact hK _ _ _ rfl (Inv_tell hI (by decide))
  by_cases g2 : 20 < a
  · refine unl (bfT rfl ?_)
    repeat' (first | refine brT (by assumption) ?_ | refine brF (by assumption) ?_ | refine br (fun q => ?_) (fun q => ?_))
    refine x_tell0 ?_; refine (hm _ _).trans ?_; refine unl (bfT rfl ?_); (repeat' (first | refine brF c10 ?_ | refine brT c00 ?_ | refine brF c01 ?_ | refine brT c11 ?_ | refine brT (by assumption) ?_ | refine brF (by assumption) ?_)); refine e_find0 ?_; exact hK _ _ _ rfl (Inv_tell hI (by decide))
  by_cases g3 : 99999 < μ 50 0 + a
  · have g4 : 99999 < μ 1 3 + a := by rw [ed]; exact g3
    refine unl (bfT rfl ?_)
    repeat' (first | refine brT (by assumption) ?_ | refine brF (by assumption) ?_ | refine br (fun q => ?_) (fun q => ?_))
    refine x_tell4 ?_; refine (hm _ _).trans ?_; refine unl (bfT rfl ?_); (repeat' (first | refine brF c10 ?_ | refine brT c00 ?_ | refine brF c01 ?_ | refine brT c11 ?_ | refine brT (by assumption) ?_ | refine brF (by assumption) ?_)); refine e_find4 ?_; exact hK _ _ _ rfl (Inv_tell hI (by decide))
  · have g4 : ¬ 99999 < μ 1 3 + a := by rw [ed]; exact g3
    have a0 : ¬ a < 0 := fun q => g1 (Int32.lt_of_lt_of_le q (by decide))
    obtain ⟨n, hn, rfl⟩ := nlt_VB (n := 20) (by decide) a0 g2
    refine unl (bfT rfl ?_)
    repeat' (first | refine brF c10 ?_ | refine brT c00 ?_ | refine brF c01 ?_ | refine brT c11 ?_ | refine brT (by assumption) ?_ | refine brF (by assumption) ?_)
    refine tossX_loop (μ := μ) hn hI.1.2 (fun μ1 r1 f1 => ?_) n 0 _ _ _ _ _ (by omega) (Nat.le_trans (show _ ≤ 2100 by omega) (Nat.le_of_ble_eq_true rfl)) rfl hI.1.1 Fr.rf
    have e50 : μ1 50 = μ 50 := f1 50 (by unfold inC; omega)
    refine (hm _ _).trans ?_
    have g3' : ¬ 99999 < μ1 50 0 + nI n := by rw [e50]; exact g3
    refine unl (bfT rfl ?_)
    repeat' (first | refine brF c10 ?_ | refine brT c00 ?_ | refine brF c01 ?_ | refine brT c11 ?_ | refine brT (by assumption) ?_ | refine brF (by assumption) ?_)
    refine tossM_loop (μ := μ1) hn (by rw [e50]; exact hI.1.2) (fun μ2 e3 eo => ?_) n 0 _ _ _ _ _ (by omega) (Nat.le_trans (show _ ≤ 2100 by omega) (Nat.le_of_ble_eq_true rfl)) rfl rfl (fun _ _ => rfl)
    rw [e50] at e3 ⊢
    refine hK _ _ _ rfl ?_
    refine Inv_court hI ?_ ⟨?_, ?_⟩
    · exact (FrA.c1 f1).tr (fun i _ _ c _ => eo i c)
    · rw [e3]
      exact rep_same (fun i hi => eo i (by unfold inC at hi; omega)) (G1_itT hI.1.2 n).n8 r1
    · rw [e3]; exact G1_itT hI.1.2 n
/-! odds -/
theorem loserH_3 {h v : Int32} {r : Nat → Int32} {a b : Int32} (ha : dI a) (hb : dI b) : loserH h (upf r 3 v) a b = loserH h r a b := by
  have e4 : ra (upf r 3 v) 4 = ra r 4 := rfl
  have e0 : ra (upf r 3 v) 0 = ra r 0 := rfl
  have p : ∀ x, dI x → pressesR (upf r 3 v) x = pressesR r x := fun x hx => by
    unfold pressesR
    rw [rD_upf hx f0 (by decide), rD_upf hx f1 (by decide), rD_upf hx f2 (by decide), e4]
  have j : ∀ x, dI x → joltsR (upf r 3 v) x = joltsR r x := fun x hx => by
    unfold joltsR
    rw [rD_upf hx f0 (by decide), rD_upf hx f2 (by decide), e0]
  have t : turnsH h (upf r 3 v) a b = turnsH h r a b := by
    unfold turnsH
    rw [j a ha, j b hb, e4]
  unfold loserH
  rw [t, p a ha, p b hb]
theorem rem_n {a d : Nat} (ha : a < 100000) (h0 : 0 < d) (hd : d < 100000) : nI a % nI d = nI (a % d) := by
  have h1 := pk_rem (a := a) (d := d) (by omega) h0 (by omega)
  rw [irem_eq_mod] at h1
  exact h1
def cdS (g : Nat) : Nat → Nat
  | 0 => 1
  | d + 1 => if 1 < d + 1 ∧ 60 % (d + 1) = 0 ∧ g % (d + 1) = 0 then d + 1 else cdS g d
theorem cdS_gcd : ∀ g, g < 61 → cdS g 60 = Nat.gcd 60 g := by decide +kernel
theorem dne {x : Int32} (h : ¬ x = 0) : decide (x = 0) = false := decide_eq_false h
set_option maxRecDepth 100000 in
theorem cd_loop {k : Rtn} {X : Option Rz} {μ : Mem} {g : Nat} (hg : g ≤ 60) (hk : k (some (.int (nI (cdS g 60)))) μ = X) :
    ∀ (d f : Nat) (x : Int32), d ≤ 60 → 40 * d + 40 ≤ f → x = nI d → cdS g 60 = cdS g d → lockO (oILd 2 3) 0 (runK P_X4_commonDivisor f k) k [some (.int 60), some (.int (nI g)), some (.int x)] [] μ = X := by
  intro d
  induction d with
  | zero =>
    intro f x hd hf hx hs
    subst hx
    obtain ⟨f2, rfl⟩ : ∃ f2, f = f2 + 40 := ⟨f - 40, by omega⟩
    refine unO ?_
    rw [hs] at hk
    exact hk
  | succ d ih =>
    intro f x hd hf hx hs
    subst hx
    obtain ⟨f2, rfl⟩ : ∃ f2, f = f2 + 40 := ⟨f - 40, by omega⟩
    have r1 : (60 : Int32) % nI (d + 1) = nI (60 % (d + 1)) := rem_n (a := 60) (by decide) (by omega) (by omega)
    have r2 : nI g % nI (d + 1) = nI (g % (d + 1)) := rem_n (by omega) (by omega) (by omega)
    have ex : nI (d + 1) + -1 = nI d := (pr1 (d + 1)).trans (decI d)
    have z : ∀ y, y < 100000 → ¬ y = 0 → ¬ nI y = 0 := fun y h q => nI_ne0 (by omega) (by omega)
    have hlt : 60 % (d + 1) < 100000 ∧ g % (d + 1) < 100000 := ⟨by have := Nat.mod_lt 60 (show 0 < d + 1 by omega); omega, by have := Nat.mod_lt g (show 0 < d + 1 by omega); omega⟩
    refine unO ?_
    by_cases h1 : 1 < d + 1
    · refine brT (show (1 : Int32) < nI (d + 1) from nI_lt (a := 1) (b := d + 1) h1 (by omega)) ?_
      refine (@bfF _ _ _ _ _ (dne (nI_ne0 (n := d + 1) (by omega) (by omega)))) ?_
      by_cases q1 : 60 % (d + 1) = 0
      · refine brT (show (60 : Int32) % nI (d + 1) = 0 by rw [r1, q1]; rfl) ?_
        refine (@bfF _ _ _ _ _ (dne (nI_ne0 (n := d + 1) (by omega) (by omega)))) ?_
        by_cases q2 : g % (d + 1) = 0
        · refine brT (show nI g % nI (d + 1) = 0 by rw [r2, q2]; rfl) ?_
          rw [hs, show cdS g (d + 1) = d + 1 from if_pos ⟨h1, q1, q2⟩] at hk
          exact hk
        · refine brF (show ¬ nI g % nI (d + 1) = 0 by rw [r2]; exact z _ hlt.2 q2) ?_
          exact ih _ _ (by omega) (by omega) ex (hs.trans (if_neg (fun q => q2 q.2.2)))
      · refine brF (show ¬ (60 : Int32) % nI (d + 1) = 0 by rw [r1]; exact z _ hlt.1 q1) ?_
        exact ih _ _ (by omega) (by omega) ex (hs.trans (if_neg (fun q => q1 q.2.1)))
    · have e0 : d = 0 := by omega
      subst e0
      rw [hs, show cdS g (0 + 1) = cdS g 0 from if_neg (fun q => h1 q.1)] at hk
      exact hk
set_option maxRecDepth 100000 in
theorem x_cd2 {μ : Mem} {k : Rtn} {X : Option Rz} {g : Nat} (hg : g ≤ 60) (hk : k (some (.int (nI (Nat.gcd 60 g)))) μ = X) : S_X4_commonDivisor [.int 60, .int (nI g)] μ k = X := by
  rw [← cdS_gcd g (by omega)] at hk
  refine unl (bfT rfl ?_)
  exact cd_loop hg hk 60 _ _ (by omega) (Nat.le_of_ble_eq_true rfl) rfl rfl
def powL (B : Int32) : Nat → Int64
  | 0 => 1
  | k + 1 => powL B k * B.toInt64
set_option maxRecDepth 100000 in
theorem oddsX3 {k : Rtn} {X : Option Rz} {μ : Mem} {a b w c g B : Int32} {n : Nat} (hn : n ≤ 10) (hk : k (some (.long (powL B n))) μ = X) :
    ∀ (m i f : Nat) (x : Int32) (L : Int64), i + m = n → 40 * m + 40 ≤ f → x = nI i → L = powL B i → lockO (oILd 10 111) 0 (runK P_X4_odds f k) k [some (.ref 0), some (.int a), some (.int b), some (.int (nI n)), some (.int w), some (.int c), some (.int g), some (.int B), some (.long L), none, some (.int x)] [] μ = X := by
  intro m
  induction m with
  | zero =>
    intro i f x L hi hf hx hL
    have ei : i = n := by omega
    subst hx; subst hL; subst ei
    obtain ⟨f2, rfl⟩ : ∃ f2, f = f2 + 40 := ⟨f - 40, by omega⟩
    refine unO ?_
    refine brF (nI_nlt (Nat.le_refl i) (by omega)) ?_
    exact hk
  | succ m ih =>
    intro i f x L hi hf hx hL
    subst hx; subst hL
    obtain ⟨f2, rfl⟩ : ∃ f2, f = f2 + 40 := ⟨f - 40, by omega⟩
    refine unO ?_
    refine brT (nI_lt (a := i) (b := n) (by omega) (by omega)) ?_
    exact ih (i + 1) _ _ _ (by omega) (by omega) (nI_succ i).symm rfl
def ogB (r : Nat → Int32) (a b : Int32) (h : Nat) : Bool := decide (loserH (nI h) r a b = a)
theorem cntF_le {p : Nat → Bool} : ∀ m i, cntF p m i ≤ m := by
  intro m
  induction m with
  | zero => intro i; exact Nat.le_refl _
  | succ m ih =>
    intro i
    cases q : p i with
    | true => rw [cntF_t q]; have := ih (i + 1); omega
    | false => rw [cntF_f q]; have := ih (i + 1); omega
theorem gcd_pos (g : Nat) : 0 < Nat.gcd 60 g := Nat.gcd_pos_of_pos_left _ (by decide)
theorem gcd_le (g : Nat) : Nat.gcd 60 g ≤ 60 := Nat.gcd_le_left _ (by decide)
set_option maxRecDepth 100000 in
theorem oddsX1 {k : Rtn} {X : Option Rz} {μ : Mem} {r : Nat → Int32} {a b w : Int32} {n : Nat} (hn : n ≤ 10) (hR : Rep μ 1 r) (hG : G1 r) (ha : hasR r a) (hb : hasR r b) (hk : k (some (.long (powL ((if w = 0 then nI (cntF (ogB r a b) 60 1) else 60) / nI (Nat.gcd 60 (cntF (ogB r a b) 60 1))) n))) μ = X) :
    ∀ (m i f t : Nat) (x c : Int32), i + m = 61 → 40 * m + 1000 ≤ f → x = nI i → c = nI t → t + cntF (ogB r a b) m i = cntF (ogB r a b) 60 1 → lockO (oILd 6 48) 0 (runK P_X4_odds f k) k [some (.ref 0), some (.int a), some (.int b), some (.int (nI n)), some (.int w), some (.int c), some (.int x), none, none, none, none] [] μ = X := by
  intro m
  induction m with
  | zero =>
    intro i f t x c hi hf hx hc ht
    have ei : i = 61 := by omega
    have et : t = cntF (ogB r a b) 60 1 := ht
    have h60 := cntF_le (p := ogB r a b) 60 1
    rw [← et] at hk h60
    subst hx; subst ei; subst hc
    obtain ⟨f2, rfl⟩ : ∃ f2, f = f2 + 1000 := ⟨f - 1000, by omega⟩
    have gp := gcd_pos t
    have gl := gcd_le t
    refine unO ?_
    refine x_cd2 h60 ?_
    by_cases q : w = 0
    · rw [if_pos q] at hk
      refine brT q ?_
      refine (@bfF _ _ _ _ _ (dne (nI_ne0 (n := Nat.gcd 60 t) gp (by omega)))) ?_
      exact oddsX3 hn hk n 0 _ _ _ (by omega) (by omega) rfl rfl
    · rw [if_neg q] at hk
      refine brF q ?_
      refine (@bfF _ _ _ _ _ (dne (nI_ne0 (n := Nat.gcd 60 t) gp (by omega)))) ?_
      exact oddsX3 hn hk n 0 _ _ _ (by omega) (by omega) rfl rfl
  | succ m ih =>
    intro i f t x c hi hf hx hc ht
    subst hx; subst hc
    obtain ⟨f2, rfl⟩ : ∃ f2, f = f2 + 1000 := ⟨f - 1000, by omega⟩
    refine unO ?_
    refine brF (nI_nlt (a := 60) (b := i) (by omega) (by decide)) ?_
    refine x_loser_1 (ha.dI hG) (hb.dI hG) ?_
    have eL := loserX_eq hR hG (h := nI i) ha hb
    cases q : ogB r a b i with
    | true =>
      refine brT (show loserX μ 1 (nI i) a b = a from eL.trans (of_decide_eq_true q)) ?_
      exact ih (i + 1) _ (t + 1) _ _ (by omega) (by omega) (nI_succ i).symm (nI_succ t).symm (by rw [← ht, cntF_t q]; omega)
    | false =>
      refine brF (show ¬ loserX μ 1 (nI i) a b = a from fun z => of_decide_eq_false q (eL.symm.trans z)) ?_
      exact ih (i + 1) _ t _ _ (by omega) (by omega) (nI_succ i).symm rfl (by rw [← ht, cntF_f q])
set_option maxRecDepth 100000 in
theorem oddsM3 {k : Rtn} {X : Option Rz} {μ : Mem} {a b w w0 c y z : Int32} {n : Nat} (hn : n ≤ 10) (hy : ¬ y = 0) (hk : k (some (.long (powL ((if w = 0 then c else 60) / y) n))) μ = X) :
    ∀ (m i f : Nat) (x : Int32) (L : Int64), i + m = n → 40 * m + 40 ≤ f → x = nI i → L = powL ((if w = 0 then c else 60) / y) i → lockO (oILd 11 139) 0 (runK P_X5_odds f k) k [some (.ref 49), some (.int a), some (.int b), some (.int (nI n)), some (.int w), some (.int w0), some (.int c), some (.int y), some (.int z), some (.long L), none, some (.int x)] [] μ = X := by
  intro m
  induction m with
  | zero =>
    intro i f x L hi hf hx hL
    have ei : i = n := by omega
    subst hx; subst hL; subst ei
    obtain ⟨f2, rfl⟩ : ∃ f2, f = f2 + 40 := ⟨f - 40, by omega⟩
    refine unO ?_
    refine brF (nI_nlt (Nat.le_refl i) (by omega)) ?_
    exact hk
  | succ m ih =>
    intro i f x L hi hf hx hL
    subst hx
    obtain ⟨f2, rfl⟩ : ∃ f2, f = f2 + 40 := ⟨f - 40, by omega⟩
    refine unO ?_
    refine brT (nI_lt (a := i) (b := n) (by omega) (by omega)) ?_
    by_cases q : w = 0
    · refine brT q ?_
      refine (@bfF _ _ _ _ _ (dne hy)) ?_
      refine ih (i + 1) _ _ _ (by omega) (by omega) (nI_succ i).symm ?_
      rw [hL, if_pos q]; rfl
    · refine brF q ?_
      refine (@bfF _ _ _ _ _ (dne hy)) ?_
      refine ih (i + 1) _ _ _ (by omega) (by omega) (nI_succ i).symm ?_
      rw [hL, if_neg q]; rfl
set_option maxRecDepth 100000 in
theorem oddsM2 {k : Rtn} {X : Option Rz} {μ : Mem} {a b w w0 c : Int32} {n G : Nat} (hn : n ≤ 10) (hp : 0 < G) (hG : G ≤ 60) (hk : k (some (.long (powL ((if w = 0 then c else 60) / nI G) n))) μ = X) :
    ∀ (o : Nat) (bb f : Nat) (y z : Int32) (w9 : Option Value), o ≤ 60 → bb ≤ 60 → 40 * o + 800 ≤ f → y = nI bb → z = nI o → G = Nat.gcd bb o → lockO (oILd 8 110) 0 (runK P_X5_odds f k) k [some (.ref 49), some (.int a), some (.int b), some (.int (nI n)), some (.int w), some (.int w0), some (.int c), some (.int y), some (.int z), w9, none, none] [] μ = X := by
  intro o
  induction o using Nat.strongRecOn with
  | _ o ih =>
    intro bb f y z w9 ho hb hf hy hz hg
    subst hy; subst hz
    obtain ⟨f2, rfl⟩ : ∃ f2, f = f2 + 800 := ⟨f - 800, by omega⟩
    refine unO ?_
    by_cases q : o = 0
    · have eg : G = bb := by rw [hg, q]; exact Nat.gcd_zero_right bb
      subst q
      subst eg
      exact oddsM3 hn (nI_ne0 hp (by omega)) hk n 0 _ _ _ (by omega) (by omega) rfl rfl
    · refine brF (nI_ne0 (n := o) (by omega) (by omega)) ?_
      refine (@bfF _ _ _ _ _ (dne (nI_ne0 (n := o) (by omega) (by omega)))) ?_
      have hl := Nat.mod_lt bb (show o > 0 by omega)
      refine ih (bb % o) hl o _ _ _ _ (by omega) (by omega) (by omega) rfl (rem_n (by omega) (by omega) (by omega)) ?_
      rw [hg, Nat.gcd_comm, Nat.gcd_rec, Nat.gcd_comm]
theorem add0 (x : Int32) : x + 0 = x := by simp
set_option maxRecDepth 100000 in
theorem oddsM1 {k : Rtn} {X : Option Rz} {μ : Mem} {a b w w0 : Int32} {n : Nat} (hn : n ≤ 10) (hG : G1 (μ 50)) (ha : dI a) (hb : dI b) (e0 : w0 = μ 50 3) (hk : ∀ ν, Back μ ν → k (some (.long (powL ((if w = 0 then nI (cntF (ogB (μ 50) a b) 60 1) else 60) / nI (Nat.gcd 60 (cntF (ogB (μ 50) a b) 60 1))) n))) ν = X) :
    ∀ (m i f t : Nat) (x c u : Int32) (ν : Mem), i + m = 61 → 40 * m + 4000 ≤ f → x = nI i → c = nI t → t + cntF (ogB (μ 50) a b) m i = cntF (ogB (μ 50) a b) 60 1 → (∀ j, ¬ j = 50 → ¬ j = 52 → ν j = μ j) → ν 50 = upf (μ 50) 3 u → lockO (oILd 7 53) 0 (runK P_X5_odds f k) k [some (.ref 49), some (.int a), some (.int b), some (.int (nI n)), some (.int w), some (.int w0), some (.int c), some (.int x), none, none, none, none] [] ν = X := by
  intro m
  induction m with
  | zero =>
    intro i f t x c u ν hi hf hx hc ht hN hV
    have ei : i = 61 := by omega
    have et : t = cntF (ogB (μ 50) a b) 60 1 := ht
    have h60 := cntF_le (p := ogB (μ 50) a b) 60 1
    rw [← et] at hk h60
    subst hx; subst ei; subst hc
    obtain ⟨f2, rfl⟩ : ∃ f2, f = f2 + 4000 := ⟨f - 4000, by omega⟩
    have hB : Back μ (up2 ν 50 3 w0) := nb_back (a := 3) (nb_put hN) (by rw [← e0]; exact v_put hV)
    refine unO ?_
    exact oddsM2 hn (gcd_pos t) (gcd_le t) (hk _ hB) t 60 _ _ _ _ h60 (by omega) (by omega) rfl rfl rfl
  | succ m ih =>
    intro i f t x c u ν hi hf hx hc ht hN hV
    subst hx; subst hc
    obtain ⟨f2, rfl⟩ : ∃ f2, f = f2 + 4000 := ⟨f - 4000, by omega⟩
    have hV1 : up2 ν 50 3 (nI i) 50 = upf (μ 50) 3 (nI i) := v_put hV
    have hN1 : ∀ j, ¬ j = 50 → ¬ j = 52 → up2 ν 50 3 (nI i) j = μ j := nb_put hN
    have eL : loserH (ra (up2 ν 50 3 (nI i) 50) 3) (up2 ν 50 3 (nI i) 50) a b = loserH (nI i) (μ 50) a b := by
      rw [hV1]
      exact loserH_3 ha hb
    refine unO ?_
    refine brF (nI_nlt (a := 60) (b := i) (by omega) (by decide)) ?_
    refine e_fallsFor (μ := up2 ν 50 3 (nI i)) ha hb ?_
    cases q : ogB (μ 50) a b i with
    | true =>
      refine brT (eL.trans (of_decide_eq_true q)) ?_
      exact ih (i + 1) _ (t + 1) _ _ (nI i) _ (by omega) (by omega) (nI_succ i).symm (nI_succ t).symm (by rw [← ht, cntF_t q]; omega) hN1 hV1
    | false =>
      refine brF (fun z => of_decide_eq_false q (eL.symm.trans z)) ?_
      exact ih (i + 1) _ t _ _ (nI i) _ (by omega) (by omega) (nI_succ i).symm (add0 _) (by rw [← ht, cntF_f q]) hN1 hV1
set_option maxRecDepth 100000 in
theorem T_odds {μ : Mem} {k1 : Rtn} {K : Int64 → Rtn} {X : Option Rz} (hI : Inv μ) {a b v w : Int32} (hm : ∀ z μ1, k1 (some (.long z)) μ1 = S_X5_odds [.ref 49, .int a, .int b, .int v, .int w] μ1 (K z)) (hK : ∀ v w μ2, v = w → Inv μ2 → K v (some (.long w)) μ2 = X) : S_X4_odds [.ref 0, .int a, .int b, .int v, .int w] μ k1 = X := by
  rcases has_cases hI a with ⟨ha, g1, g2, g3⟩ | g1 | ⟨g1, g2, g3⟩
  rotate_left
  · refine unl (bfT rfl ?_)
    repeat' (first | refine brT (by assumption) ?_ | refine brF (by assumption) ?_ | refine br (fun q => ?_) (fun q => ?_))
    all_goals (refine x_tell0 ?_; refine (hm _ _).trans ?_; refine unl (bfT rfl ?_); (repeat' (first | refine brF c10 ?_ | refine brT c00 ?_ | refine brF c01 ?_ | refine brT c11 ?_ | refine brT (by assumption) ?_ | refine brF (by assumption) ?_)); refine e_find0 ?_; exact hK _ _ _ rfl (Inv_tell hI (by decide)))
  · refine unl (bfT rfl ?_)
    repeat' (first | refine brT (by assumption) ?_ | refine brF (by assumption) ?_ | refine br (fun q => ?_) (fun q => ?_))
    all_goals (refine x_tell0 ?_; refine (hm _ _).trans ?_; refine unl (bfT rfl ?_); (repeat' (first | refine brF c10 ?_ | refine brT c00 ?_ | refine brF c01 ?_ | refine brT c11 ?_ | refine brT (by assumption) ?_ | refine brF (by assumption) ?_)); refine e_find0 ?_; exact hK _ _ _ rfl (Inv_tell hI (by decide)))
  rcases has_cases hI b with ⟨hb, q1, q2, q3⟩ | q1 | ⟨q1, q2, q3⟩
  rotate_left
  · refine unl (bfT rfl ?_)
    repeat' (first | refine brT (by assumption) ?_ | refine brF (by assumption) ?_ | refine br (fun q => ?_) (fun q => ?_))
    all_goals (refine x_tell0 ?_; refine (hm _ _).trans ?_; refine unl (bfT rfl ?_); (repeat' (first | refine brF c10 ?_ | refine brT c00 ?_ | refine brF c01 ?_ | refine brT c11 ?_ | refine brT (by assumption) ?_ | refine brF (by assumption) ?_)); refine e_find0 ?_; exact hK _ _ _ rfl (Inv_tell hI (by decide)))
  · refine unl (bfT rfl ?_)
    repeat' (first | refine brT (by assumption) ?_ | refine brF (by assumption) ?_ | refine br (fun q => ?_) (fun q => ?_))
    all_goals (refine x_tell0 ?_; refine (hm _ _).trans ?_; refine unl (bfT rfl ?_); (repeat' (first | refine brF c10 ?_ | refine brT c00 ?_ | refine brF c01 ?_ | refine brT c11 ?_ | refine brT (by assumption) ?_ | refine brF (by assumption) ?_)); refine e_find0 ?_; exact hK _ _ _ rfl (Inv_tell hI (by decide)))
  by_cases hab : a = b
  · refine unl (bfT rfl ?_)
    repeat' (first | refine brT (by assumption) ?_ | refine brF (by assumption) ?_ | refine br (fun q => ?_) (fun q => ?_))
    all_goals (refine x_tell0 ?_; refine (hm _ _).trans ?_; refine unl (bfT rfl ?_); (repeat' (first | refine brF c10 ?_ | refine brT c00 ?_ | refine brF c01 ?_ | refine brT c11 ?_ | refine brT (by assumption) ?_ | refine brF (by assumption) ?_)); refine e_find0 ?_; exact hK _ _ _ rfl (Inv_tell hI (by decide)))
  by_cases v1 : v < 0
  · refine unl (bfT rfl ?_)
    repeat' (first | refine brT (by assumption) ?_ | refine brF (by assumption) ?_ | refine br (fun q => ?_) (fun q => ?_))
    all_goals (refine x_tell0 ?_; refine (hm _ _).trans ?_; refine unl (bfT rfl ?_); (repeat' (first | refine brF c10 ?_ | refine brT c00 ?_ | refine brF c01 ?_ | refine brT c11 ?_ | refine brT (by assumption) ?_ | refine brF (by assumption) ?_)); refine e_find0 ?_; exact hK _ _ _ rfl (Inv_tell hI (by decide)))
  by_cases v2 : 10 < v
  · refine unl (bfT rfl ?_)
    repeat' (first | refine brT (by assumption) ?_ | refine brF (by assumption) ?_ | refine br (fun q => ?_) (fun q => ?_))
    all_goals (refine x_tell0 ?_; refine (hm _ _).trans ?_; refine unl (bfT rfl ?_); (repeat' (first | refine brF c10 ?_ | refine brT c00 ?_ | refine brF c01 ?_ | refine brT c11 ?_ | refine brT (by assumption) ?_ | refine brF (by assumption) ?_)); refine e_find0 ?_; exact hK _ _ _ rfl (Inv_tell hI (by decide)))
  by_cases w1 : w < 0
  · refine unl (bfT rfl ?_)
    repeat' (first | refine brT (by assumption) ?_ | refine brF (by assumption) ?_ | refine br (fun q => ?_) (fun q => ?_))
    all_goals (refine x_tell0 ?_; refine (hm _ _).trans ?_; refine unl (bfT rfl ?_); (repeat' (first | refine brF c10 ?_ | refine brT c00 ?_ | refine brF c01 ?_ | refine brT c11 ?_ | refine brT (by assumption) ?_ | refine brF (by assumption) ?_)); refine e_find0 ?_; exact hK _ _ _ rfl (Inv_tell hI (by decide)))
  by_cases w2 : 1 < w
  · refine unl (bfT rfl ?_)
    repeat' (first | refine brT (by assumption) ?_ | refine brF (by assumption) ?_ | refine br (fun q => ?_) (fun q => ?_))
    all_goals (refine x_tell0 ?_; refine (hm _ _).trans ?_; refine unl (bfT rfl ?_); (repeat' (first | refine brF c10 ?_ | refine brT c00 ?_ | refine brF c01 ?_ | refine brT c11 ?_ | refine brT (by assumption) ?_ | refine brF (by assumption) ?_)); refine e_find0 ?_; exact hK _ _ _ rfl (Inv_tell hI (by decide)))
  obtain ⟨n, hn, rfl⟩ := nlt_VB (n := 10) (by decide) v1 v2
  refine unl (bfT rfl ?_)
  repeat' (first | refine brF c10 ?_ | refine brT c00 ?_ | refine brF c01 ?_ | refine brT c11 ?_ | refine brT (by assumption) ?_ | refine brF (by assumption) ?_)
  refine oddsX1 hn hI.1.1 hI.1.2 ha hb ?_ 60 1 _ 0 _ _ (by omega) (Nat.le_of_ble_eq_true rfl) rfl rfl (Nat.zero_add _)
  refine (hm _ _).trans ?_
  refine unl (bfT rfl ?_)
  repeat' (first | refine brF c10 ?_ | refine brT c00 ?_ | refine brF c01 ?_ | refine brT c11 ?_ | refine brT (by assumption) ?_ | refine brF (by assumption) ?_)
  refine oddsM1 (μ := μ) (w0 := μ 50 3) hn hI.1.2 (ha.dI hI.1.2) (hb.dI hI.1.2) rfl (fun ν hB => ?_) 60 1 _ 0 _ _ (μ 50 3) _ (by omega) (Nat.le_of_ble_eq_true rfl) rfl rfl (Nat.zero_add _) (fun _ _ _ => rfl) (upf_id _ _).symm
  exact hK _ _ _ rfl (hB.inv hI Fr.rf)
