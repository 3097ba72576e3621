/-! what will be -/
def fsR (p : (Nat → Int32) → Bool) (r : Nat → Int32) : Nat → Nat → Option Nat
  | 0, i => bif p (itR i r) then some i else none
  | m + 1, i => bif p (itR i r) then some i else fsR p r m (i + 1)
theorem fsR_le {p : (Nat → Int32) → Bool} {r : Nat → Int32} : ∀ (m i j : Nat), fsR p r m i = some j → j ≤ i + m := by
  intro m
  induction m with
  | zero =>
    intro i j h
    unfold fsR at h
    cases hp : p (itR i r) with
    | true => rw [hp] at h; cases h; omega
    | false => rw [hp] at h; cases h
  | succ m ih =>
    intro i j h
    unfold fsR at h
    cases hp : p (itR i r) with
    | true => rw [hp] at h; cases h; omega
    | false => rw [hp] at h; have := ih (i + 1) j h; omega
theorem fsR_t {p : (Nat → Int32) → Bool} {r : Nat → Int32} {m i : Nat} (h : p (itR i r) = true) : fsR p r m i = some i := by
  cases m <;> (unfold fsR; rw [h]; rfl)
theorem fsR_0 {p : (Nat → Int32) → Bool} {r : Nat → Int32} {i : Nat} (h : p (itR i r) = false) : fsR p r 0 i = none := by
  unfold fsR; rw [h]; rfl
theorem fsR_s {p : (Nat → Int32) → Bool} {r : Nat → Int32} {m i : Nat} (h : p (itR i r) = false) : fsR p r (m + 1) i = fsR p r m (i + 1) := by
  show (bif p (itR i r) then some i else fsR p r m (i + 1)) = _
  rw [h]; rfl
theorem Inv_back {μ ν : Mem} (hI : Inv μ) (hF : FrA μ ν) (h50 : ∀ i, i < 70 → ν 50 i = μ 50 i) (h1 : ∀ i, inC 1 i → ν i = μ i) : Inv ν :=
  Inv_court hI hF ⟨rep_congr h50 hI.1.2.n8 (rep_same h1 hI.1.2.n8 hI.1.1), G1_congr h50 hI.1.2⟩
theorem e_putBack {μ : Mem} {k : Rtn} {X : Option Rz} {v : Int32} (hk : ∀ μ', μ' = up1 μ 50 (cpI 70 (μ 52) (μ 50)) → k (some (.int v)) μ' = X) : S_X5_putBack [.ref 49, .int v] μ k = X := by
  refine unl (bfT rfl ?_)
  refine e_copy_52_50 (fun μ1 e1 => ?_)
  exact hk _ e1
theorem hasR_it {r : Nat → Int32} (hG : G1 r) {x : Int32} (h : hasR r x) (n : Nat) : hasR (itR n r) x := by
  obtain ⟨d, hd, e⟩ := h
  exact ⟨d, by rw [it_1 hG n]; exact hd, e⟩
/-- what the reference has behind a thought -/
def Back (μ ν : Mem) : Prop := (∀ i, ¬ i = 50 → ¬ i = 52 → ν i = μ i) ∧ ∀ i, i < 70 → ν 50 i = μ 50 i
theorem bk_of {μ ν : Mem} {R : Nat → Int32} (e : ν = up1 (up1 (up1 μ 52 (cpI 70 (μ 50) (μ 52))) 50 R) 50 (cpI 70 ((up1 (up1 μ 52 (cpI 70 (μ 50) (μ 52))) 50 R) 52) ((up1 (up1 μ 52 (cpI 70 (μ 50) (μ 52))) 50 R) 50))) : Back μ ν := by
  refine ⟨fun i a b => ?_, fun i hi => ?_⟩
  · rw [e, up1_ne _ _ a, up1_ne _ _ a, up1_ne _ _ b]
  · rw [e, up1_at, cpI_lt hi, up1_ne _ _ (by decide), up1_at, cpI_lt hi]
theorem Back.inv {μ μ1 ν : Mem} (hI : Inv μ) (hF : Fr 2 μ μ1) (hB : Back μ1 ν) : Inv ν := by
  have e : ∀ i, ¬ i = 50 → ¬ i = 52 → ¬ inC 2 i → ν i = μ i := fun i a b c => (hB.1 i a b).trans (hF i c)
  refine Inv_back hI (fun i _ b c d => e i c d b) (fun i hi => ?_) (fun i hi => e i (by unfold inC at hi; omega) (by unfold inC at hi; omega) (by unfold inC at hi ⊢; omega))
  rw [hB.2 i hi]
  exact congrFun (hF 50 (by unfold inC; omega)) i
theorem Inv_tb {μ ν2 ν3 : Mem} {j : Nat} (hI : Inv μ) (f2 : Fr 2 μ ν2) (hB : Back (telM ν2 j) ν3) (hj : j < 7) : Inv (fndM ν3 j) := by
  have et : ∀ i, ¬ i = 48 → telM ν2 j i = ν2 i := fun i a => up2_ne _ _ a
  have h48 : ν3 48 = upf (ν2 48) j (ν2 48 j + 1) := (hB.1 48 (by decide) (by decide)).trans (up2_at _ _ _ _)
  have e3 : telM (up1 ν3 48 (ν2 48)) j = ν3 := by
    funext i
    by_cases e : i = 48
    · subst e
      unfold telM
      rw [up2_at, up1_at]
      exact h48.symm
    · unfold telM
      rw [up2_ne _ _ e, up1_ne _ _ e]
  have hr : ∀ i, ¬ i = 50 → ¬ i = 52 → ¬ inC 2 i → up1 ν3 48 (ν2 48) i = μ i := by
    intro i a b c
    by_cases e : i = 48
    · subst e; rw [up1_at]; exact f2 48 c
    · rw [up1_ne _ _ e, hB.1 i a b, et i e]; exact f2 i c
  have hR : Inv (up1 ν3 48 (ν2 48)) := by
    refine Inv_back hI (fun i _ b c d => hr i c d b) (fun i hi => ?_) (fun i hi => hr i (by unfold inC at hi; omega) (by unfold inC at hi; omega) (by unfold inC at hi ⊢; omega))
    rw [up1_ne _ _ (show ¬ 50 = 48 by decide), hB.2 i hi, et 50 (by decide)]
    exact congrFun (f2 50 (by unfold inC; omega)) i
  have h9 := Inv_tell hR hj
  rw [e3] at h9
  exact h9
set_option maxRecDepth 100000 in
theorem dropsTo_loop {k : Rtn} {X : Option Rz} {μ : Mem} {pl v : Int32} {r : Nat → Int32} (hp : inB pl 70 = true) (hG : G1 r) (h50 : ∀ R, up1 (up1 μ 52 (cpI 70 (μ 50) (μ 52))) 50 R = up1 (up1 μ 52 (cpI 70 (μ 50) (μ 52))) 50 R) (hk : ∀ ν w, w = (match fsR (fun q => !(decide (ra q pl < v))) r 200 0 with | some j => nI j | none => -1) → Back μ ν → k (some (.int w)) ν = X) :
    ∀ (m i f : Nat) (x : Int32) (ν : Mem), i + m = 200 → 30 * m + 30 ≤ f → x = nI i → ν = up1 (up1 μ 52 (cpI 70 (μ 50) (μ 52))) 50 (itR i r) → fsR (fun q => !(decide (ra q pl < v))) r 200 0 = fsR (fun q => !(decide (ra q pl < v))) r m i → lockO (oILd 3 14) 0 (runK P_X5_dropsTo f k) k [some (.ref 49), some (.int pl), some (.int v), some (.int x)] [] ν = X := by
  intro m
  induction m with
  | zero =>
    intro i f x ν hi hf hx hν hs
    have ei : i = 200 := by omega
    subst hx; subst hν; subst ei
    obtain ⟨F, rfl⟩ : ∃ F, f = F + 30 := ⟨f - 30, by omega⟩
    refine unO ?_
    refine (@bfT _ _ _ _ _ (hp)) ?_
    by_cases hv : ra (itR 200 r) pl < v
    · refine brT hv ?_
      refine e_putBack (fun μ2 e2 => ?_)
      refine hk _ _ ?_ (bk_of e2)
      rw [hs, fsR_0 (by simp [hv])]
    · refine brF hv ?_
      refine e_putBack (fun μ2 e2 => ?_)
      refine hk _ _ ?_ (bk_of e2)
      rw [hs, fsR_t (by simp [hv])]
  | succ m ih =>
    intro i f x ν hi hf hx hν hs
    subst hx; subst hν
    obtain ⟨F, rfl⟩ : ∃ F, f = F + 30 := ⟨f - 30, by omega⟩
    refine unO ?_
    refine brT (nI_lt (a := i) (b := 200) (by omega) (by decide)) ?_
    refine (@bfT _ _ _ _ _ (hp)) ?_
    by_cases hv : ra (itR i r) pl < v
    · refine brT hv ?_
      refine e_drop (by rw [up1_at]; exact (G1_it hG i).g0) (fun μ1 e1 => ?_)
      refine ih (i + 1) _ _ _ (by omega) (by omega) (nI_succ i).symm ?_ ?_
      · rw [e1, up1_same, up1_at]; rfl
      · rw [hs, fsR_s (by simp [hv])]
    · refine brF hv ?_
      refine (@bfT _ _ _ _ _ (hp)) ?_
      refine brF hv ?_
      refine e_putBack (fun μ2 e2 => ?_)
      refine hk _ _ ?_ (bk_of e2)
      rw [hs, fsR_t (by simp [hv])]
set_option maxRecDepth 100000 in
theorem e_dropsTo {μ : Mem} {k : Rtn} {X : Option Rz} {pl v : Int32} (hp : inB pl 70 = true) (hG : G1 (μ 50)) (hk : ∀ ν w, w = (match fsR (fun q => !(decide (ra q pl < v))) (μ 50) 200 0 with | some j => nI j | none => -1) → Back μ ν → k (some (.int w)) ν = X) : S_X5_dropsTo [.ref 49, .int pl, .int v] μ k = X := by
  refine unl (bfT rfl ?_)
  refine e_copy_50_52 (fun μ1 e1 => ?_)
  refine dropsTo_loop hp hG (fun _ => rfl) hk 200 0 _ _ _ (by omega) (Nat.le_of_ble_eq_true rfl) rfl ?_ rfl
  rw [e1]
  funext i
  by_cases e : i = 50
  · subst e; rw [up1_at, up1_ne _ _ (by decide)]; rfl
  · rw [up1_ne _ _ e]
set_option maxRecDepth 100000 in
theorem reach_loop {k : Rtn} {X : Option Rz} {μ : Mem} {d w v : Int32} {r : Nat → Int32} (hd : hasR r d) (hw : VB w 10) (hG : G1 r) (hk : ∀ ν j, fsR (fun q => !(decide (toldR q d w < v))) r 200 0 = some j → Fr 2 μ ν → k (some (.int (nI j))) ν = X) (hn : ∀ ν, fsR (fun q => !(decide (toldR q d w < v))) r 200 0 = none → Fr 2 μ ν → k (some (.int (-1000004))) (telM ν 3) = X) :
    ∀ (m i f : Nat) (x : Int32) (ν : Mem), i + m = 200 → 60 * m + 60 ≤ f → x = nI i → Rep ν 2 (itR i r) → Fr 2 μ ν → fsR (fun q => !(decide (toldR q d w < v))) r 200 0 = fsR (fun q => !(decide (toldR q d w < v))) r m i → lockO (oILd 4 45) 0 (runK P_X4_dropsToReach f k) k [some (.ref 0), some (.int d), some (.int w), some (.int v), some (.int x)] [] ν = X := by
  have hx := hd.dI hG
  intro m
  induction m with
  | zero =>
    intro i f x ν hi hf hxx hR hF hs
    have ei : i = 200 := by omega
    subst hxx; subst ei
    obtain ⟨F, rfl⟩ : ∃ F, f = F + 60 := ⟨f - 60, by omega⟩
    have hdi := hasR_it hG hd 200
    refine unO ?_
    refine (@bfT _ _ _ _ _ (in8 hx)) ?_
    refine (@bfT _ _ _ _ _ (kdq_2 hx)) ?_
    refine x_tells (kdq_2 hx) (hasR.kd hR (G1_it hG 200) hdi) ?_
    have et := tells_eq hR (G1_it hG 200) hdi hw
    by_cases hv : toldR (itR 200 r) d w < v
    · refine brT (et ▸ hv) ?_
      refine x_drop_2 hR (G1_it hG 200) (fun μ1 r1 f1 => ?_)
      refine unO ?_
      refine x_tell3 ?_
      exact hn _ (hs.trans (fsR_0 (by simp [hv]))) (hF.tr f1)
    · refine brF (et ▸ hv) ?_
      exact hk _ _ (hs.trans (fsR_t (by simp [hv]))) hF
  | succ m ih =>
    intro i f x ν hi hf hxx hR hF hs
    subst hxx
    obtain ⟨F, rfl⟩ : ∃ F, f = F + 60 := ⟨f - 60, by omega⟩
    have hdi := hasR_it hG hd i
    refine unO ?_
    refine brF (nI_nlt (a := 200) (b := i) (by omega) (by decide)) ?_
    refine (@bfT _ _ _ _ _ (in8 hx)) ?_
    refine (@bfT _ _ _ _ _ (kdq_2 hx)) ?_
    refine x_tells (kdq_2 hx) (hasR.kd hR (G1_it hG i) hdi) ?_
    have et := tells_eq hR (G1_it hG i) hdi hw
    by_cases hv : toldR (itR i r) d w < v
    · refine brT (et ▸ hv) ?_
      refine x_drop_2 hR (G1_it hG i) (fun μ1 r1 f1 => ?_)
      exact ih (i + 1) _ _ _ (by omega) (by omega) (nI_succ i).symm r1 (hF.tr f1) (hs.trans (fsR_s (by simp [hv])))
    · refine brF (et ▸ hv) ?_
      exact hk _ _ (hs.trans (fsR_t (by simp [hv]))) hF
set_option maxRecDepth 100000 in
theorem T_wrong {μ : Mem} {k1 : Rtn} {K : Int32 → Rtn} {X : Option Rz} (hI : Inv μ) {d v : Int32} (hm : ∀ w μ1, k1 (some (.int w)) μ1 = S_X5_wrong [.ref 49, .int d, .int v] μ1 (K w)) (hK : ∀ v w μ2, v = w → Inv μ2 → K v (some (.int w)) μ2 = X) : S_X4_wrong [.ref 0, .int d, .int v] μ k1 = X := by
  rcases has_cases hI d with ⟨hd, g1, g2, g3⟩ | g1 | ⟨g1, g2, g3⟩
  · by_cases v1 : v < 0
    · refine unl (bfT rfl ?_)
      refine unl (bfT rfl ?_)
      repeat' (first | refine brT (by assumption) ?_ | refine brF (by assumption) ?_ | refine br (fun q => ?_) (fun q => ?_))
      refine x_tell0 ?_; refine (hm _ _).trans ?_; refine unl (bfT rfl ?_); (repeat' (first | refine brF c10 ?_ | refine brT c00 ?_ | refine brF c01 ?_ | refine brT c11 ?_ | refine brT (by assumption) ?_ | refine brF (by assumption) ?_)); refine e_find0 ?_; exact hK _ _ _ rfl (Inv_tell hI (by decide))
    by_cases v2 : 9999 < v
    · refine unl (bfT rfl ?_)
      refine unl (bfT rfl ?_)
      repeat' (first | refine brT (by assumption) ?_ | refine brF (by assumption) ?_ | refine br (fun q => ?_) (fun q => ?_))
      refine x_tell0 ?_; refine (hm _ _).trans ?_; refine unl (bfT rfl ?_); (repeat' (first | refine brF c10 ?_ | refine brT c00 ?_ | refine brF c01 ?_ | refine brT c11 ?_ | refine brT (by assumption) ?_ | refine brF (by assumption) ?_)); refine e_find0 ?_; exact hK _ _ _ rfl (Inv_tell hI (by decide))
    have hx := hd.dI hI.1.2
    have e50 : ∀ ν : Mem, Fr 2 μ ν → ν 50 = μ 50 := fun ν f => f 50 (by unfold inC; omega)
    have ref : ∀ (z : Int32) (ν : Mem), Fr 2 μ ν → (∀ ν2, Back ν ν2 → (match fsR (fun q => !(decide (toldR q d 3 < v))) (μ 50) 200 0 with | some j => z = nI j | none => False) → K z (some (.int z)) ν2 = X) → (fsR (fun q => !(decide (toldR q d 3 < v))) (μ 50) 200 0 = none → False) → (match fsR (fun q => !(decide (toldR q d 3 < v))) (μ 50) 200 0 with | some j => z = nI j | none => False) → S_X5_wrong [.ref 49, .int d, .int v] ν (K z) = X := by
      intro z ν f hz _ hm9
      have e := e50 ν f
      have g4 : ¬ ν 50 1 - 1 < d := by rw [e]; exact g3
      refine unl (bfT rfl ?_)
      repeat' (first | refine brF c10 ?_ | refine brT c00 ?_ | refine brF c01 ?_ | refine brT c11 ?_ | refine brT (by assumption) ?_ | refine brF (by assumption) ?_)
      refine e_dropsTo (dI_in hx f3) (by rw [e]; exact hI.1.2) (fun ν2 w hw hB => ?_)
      rw [e] at hw
      have hw2 : w = (match fsR (fun q => !(decide (toldR q d 3 < v))) (μ 50) 200 0 with | some j => nI j | none => -1) := hw
      cases hf : fsR (fun q => !(decide (toldR q d 3 < v))) (μ 50) 200 0 with
      | none => rw [hf] at hm9; exact absurd hm9 id
      | some j =>
        rw [hf] at hw2 hm9
        have hj := fsR_le 200 0 j hf
        have hz2 : w = z := by rw [hw2]; exact hm9.symm
        have nn : ¬ w < 0 := by rw [hw2]; exact nI_nl (by omega)
        refine brF nn ?_
        rw [hz2]
        refine hz _ hB ?_
        rw [hf]
        exact hm9
    have bec : ∀ (k2 : Rtn), (∀ ν, Rep ν 2 (μ 50) → Fr 2 μ ν → k2 none ν = X) → S_X0_become [.ref 2, .ref 1] μ k2 = X := fun k2 hh => x_bec_21 hI.1.1 hI.1.2 hh
    refine unl (bfT rfl ?_)
    refine unl (bfT rfl ?_)
    repeat' (first | refine brF c10 ?_ | refine brT c00 ?_ | refine brF c01 ?_ | refine brT c11 ?_ | refine brT (by assumption) ?_ | refine brF (by assumption) ?_)
    refine bec _ (fun ν rv fv => ?_)
    refine reach_loop (w := 3) (v := v) hd ⟨3, by decide, rfl⟩ hI.1.2 (fun ν2 j hj f2 => ?_) (fun ν2 hj f2 => ?_) 200 0 _ _ _ (by omega) (Nat.le_of_ble_eq_true rfl) rfl rv fv rfl
    · refine (hm _ _).trans ?_
      refine ref _ _ f2 (fun ν3 hB _ => hK _ _ _ rfl (hB.inv hI f2)) (fun q => by rw [hj] at q; cases q) ?_
      rw [hj]
    · refine (hm _ _).trans ?_
      have e : (telM ν2 3) 50 = μ 50 := e50 ν2 f2
      have g4 : ¬ (telM ν2 3) 50 1 - 1 < d := by rw [e]; exact g3
      refine unl (bfT rfl ?_)
      repeat' (first | refine brF c10 ?_ | refine brT c00 ?_ | refine brF c01 ?_ | refine brT c11 ?_ | refine brT (by assumption) ?_ | refine brF (by assumption) ?_)
      refine e_dropsTo (dI_in hx f3) (by rw [e]; exact hI.1.2) (fun ν3 w hw hB => ?_)
      rw [e] at hw
      have hw2 : w = (match fsR (fun q => !(decide (toldR q d 3 < v))) (μ 50) 200 0 with | some j => nI j | none => -1) := hw
      rw [hj] at hw2
      have nn : w < 0 := by rw [hw2]; decide
      refine brT nn ?_
      refine e_find3 ?_
      exact hK _ _ _ rfl (Inv_tb hI f2 hB (by decide))
  · refine unl (bfT rfl ?_)
    refine unl (bfT rfl ?_)
    repeat' (first | refine brT (by assumption) ?_ | refine brF (by assumption) ?_ | refine br (fun q => ?_) (fun q => ?_))
    refine x_tell0 ?_; refine (hm _ _).trans ?_; refine unl (bfT rfl ?_); (repeat' (first | refine brF c10 ?_ | refine brT c00 ?_ | refine brF c01 ?_ | refine brT c11 ?_ | refine brT (by assumption) ?_ | refine brF (by assumption) ?_)); refine e_find0 ?_; exact hK _ _ _ rfl (Inv_tell hI (by decide))
  · refine unl (bfT rfl ?_)
    refine unl (bfT rfl ?_)
    repeat' (first | refine brT (by assumption) ?_ | refine brF (by assumption) ?_ | refine br (fun q => ?_) (fun q => ?_))
    refine x_tell0 ?_; refine (hm _ _).trans ?_; refine unl (bfT rfl ?_); (repeat' (first | refine brF c10 ?_ | refine brT c00 ?_ | refine brF c01 ?_ | refine brT c11 ?_ | refine brT (by assumption) ?_ | refine brF (by assumption) ?_)); refine e_find0 ?_; exact hK _ _ _ rfl (Inv_tell hI (by decide))
set_option maxRecDepth 100000 in
theorem T_right {μ : Mem} {k1 : Rtn} {K : Int32 → Rtn} {X : Option Rz} (hI : Inv μ) {d v : Int32} (hm : ∀ w μ1, k1 (some (.int w)) μ1 = S_X5_right [.ref 49, .int d, .int v] μ1 (K w)) (hK : ∀ v w μ2, v = w → Inv μ2 → K v (some (.int w)) μ2 = X) : S_X4_right [.ref 0, .int d, .int v] μ k1 = X := by
  rcases has_cases hI d with ⟨hd, g1, g2, g3⟩ | g1 | ⟨g1, g2, g3⟩
  · by_cases v1 : v < 0
    · refine unl (bfT rfl ?_)
      refine unl (bfT rfl ?_)
      repeat' (first | refine brT (by assumption) ?_ | refine brF (by assumption) ?_ | refine br (fun q => ?_) (fun q => ?_))
      refine x_tell0 ?_; refine (hm _ _).trans ?_; refine unl (bfT rfl ?_); (repeat' (first | refine brF c10 ?_ | refine brT c00 ?_ | refine brF c01 ?_ | refine brT c11 ?_ | refine brT (by assumption) ?_ | refine brF (by assumption) ?_)); refine e_find0 ?_; exact hK _ _ _ rfl (Inv_tell hI (by decide))
    by_cases v2 : 9999 < v
    · refine unl (bfT rfl ?_)
      refine unl (bfT rfl ?_)
      repeat' (first | refine brT (by assumption) ?_ | refine brF (by assumption) ?_ | refine br (fun q => ?_) (fun q => ?_))
      refine x_tell0 ?_; refine (hm _ _).trans ?_; refine unl (bfT rfl ?_); (repeat' (first | refine brF c10 ?_ | refine brT c00 ?_ | refine brF c01 ?_ | refine brT c11 ?_ | refine brT (by assumption) ?_ | refine brF (by assumption) ?_)); refine e_find0 ?_; exact hK _ _ _ rfl (Inv_tell hI (by decide))
    have hx := hd.dI hI.1.2
    have e50 : ∀ ν : Mem, Fr 2 μ ν → ν 50 = μ 50 := fun ν f => f 50 (by unfold inC; omega)
    have ref : ∀ (z : Int32) (ν : Mem), Fr 2 μ ν → (∀ ν2, Back ν ν2 → (match fsR (fun q => !(decide (toldR q d 4 < v))) (μ 50) 200 0 with | some j => z = nI j | none => False) → K z (some (.int z)) ν2 = X) → (fsR (fun q => !(decide (toldR q d 4 < v))) (μ 50) 200 0 = none → False) → (match fsR (fun q => !(decide (toldR q d 4 < v))) (μ 50) 200 0 with | some j => z = nI j | none => False) → S_X5_right [.ref 49, .int d, .int v] ν (K z) = X := by
      intro z ν f hz _ hm9
      have e := e50 ν f
      have g4 : ¬ ν 50 1 - 1 < d := by rw [e]; exact g3
      refine unl (bfT rfl ?_)
      repeat' (first | refine brF c10 ?_ | refine brT c00 ?_ | refine brF c01 ?_ | refine brT c11 ?_ | refine brT (by assumption) ?_ | refine brF (by assumption) ?_)
      refine e_dropsTo (dI_in hx f4) (by rw [e]; exact hI.1.2) (fun ν2 w hw hB => ?_)
      rw [e] at hw
      have hw2 : w = (match fsR (fun q => !(decide (toldR q d 4 < v))) (μ 50) 200 0 with | some j => nI j | none => -1) := hw
      cases hf : fsR (fun q => !(decide (toldR q d 4 < v))) (μ 50) 200 0 with
      | none => rw [hf] at hm9; exact absurd hm9 id
      | some j =>
        rw [hf] at hw2 hm9
        have hj := fsR_le 200 0 j hf
        have hz2 : w = z := by rw [hw2]; exact hm9.symm
        have nn : ¬ w < 0 := by rw [hw2]; exact nI_nl (by omega)
        refine brF nn ?_
        rw [hz2]
        refine hz _ hB ?_
        rw [hf]
        exact hm9
    have bec : ∀ (k2 : Rtn), (∀ ν, Rep ν 2 (μ 50) → Fr 2 μ ν → k2 none ν = X) → S_X0_become [.ref 2, .ref 1] μ k2 = X := fun k2 hh => x_bec_21 hI.1.1 hI.1.2 hh
    refine unl (bfT rfl ?_)
    refine unl (bfT rfl ?_)
    repeat' (first | refine brF c10 ?_ | refine brT c00 ?_ | refine brF c01 ?_ | refine brT c11 ?_ | refine brT (by assumption) ?_ | refine brF (by assumption) ?_)
    refine bec _ (fun ν rv fv => ?_)
    refine reach_loop (w := 4) (v := v) hd ⟨4, by decide, rfl⟩ hI.1.2 (fun ν2 j hj f2 => ?_) (fun ν2 hj f2 => ?_) 200 0 _ _ _ (by omega) (Nat.le_of_ble_eq_true rfl) rfl rv fv rfl
    · refine (hm _ _).trans ?_
      refine ref _ _ f2 (fun ν3 hB _ => hK _ _ _ rfl (hB.inv hI f2)) (fun q => by rw [hj] at q; cases q) ?_
      rw [hj]
    · refine (hm _ _).trans ?_
      have e : (telM ν2 3) 50 = μ 50 := e50 ν2 f2
      have g4 : ¬ (telM ν2 3) 50 1 - 1 < d := by rw [e]; exact g3
      refine unl (bfT rfl ?_)
      repeat' (first | refine brF c10 ?_ | refine brT c00 ?_ | refine brF c01 ?_ | refine brT c11 ?_ | refine brT (by assumption) ?_ | refine brF (by assumption) ?_)
      refine e_dropsTo (dI_in hx f4) (by rw [e]; exact hI.1.2) (fun ν3 w hw hB => ?_)
      rw [e] at hw
      have hw2 : w = (match fsR (fun q => !(decide (toldR q d 4 < v))) (μ 50) 200 0 with | some j => nI j | none => -1) := hw
      rw [hj] at hw2
      have nn : w < 0 := by rw [hw2]; decide
      refine brT nn ?_
      refine e_find3 ?_
      exact hK _ _ _ rfl (Inv_tb hI f2 hB (by decide))
  · refine unl (bfT rfl ?_)
    refine unl (bfT rfl ?_)
    repeat' (first | refine brT (by assumption) ?_ | refine brF (by assumption) ?_ | refine br (fun q => ?_) (fun q => ?_))
    refine x_tell0 ?_; refine (hm _ _).trans ?_; refine unl (bfT rfl ?_); (repeat' (first | refine brF c10 ?_ | refine brT c00 ?_ | refine brF c01 ?_ | refine brT c11 ?_ | refine brT (by assumption) ?_ | refine brF (by assumption) ?_)); refine e_find0 ?_; exact hK _ _ _ rfl (Inv_tell hI (by decide))
  · refine unl (bfT rfl ?_)
    refine unl (bfT rfl ?_)
    repeat' (first | refine brT (by assumption) ?_ | refine brF (by assumption) ?_ | refine br (fun q => ?_) (fun q => ?_))
    refine x_tell0 ?_; refine (hm _ _).trans ?_; refine unl (bfT rfl ?_); (repeat' (first | refine brF c10 ?_ | refine brT c00 ?_ | refine brF c01 ?_ | refine brT c11 ?_ | refine brT (by assumption) ?_ | refine brF (by assumption) ?_)); refine e_find0 ?_; exact hK _ _ _ rfl (Inv_tell hI (by decide))
