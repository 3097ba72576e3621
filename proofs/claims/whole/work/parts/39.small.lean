/-! count, status, wipe, feed, as -/
def hsR (r : Nat → Int32) : Nat → Int32
  | 0 => 0
  | i + 1 => if r (12 + i) = -1 then hsR r i else hsR r i + 1
set_option maxRecDepth 100000 in
theorem held_loop {k : Rtn} {X : Option Rz} {μ : Mem} {r : Nat → Int32} (hR : Rep μ 1 r) (hk : k (some (.int (hsR r 10))) μ = X) :
    ∀ (m i f : Nat) (x y : Int32), i + m = 10 → 40 * m + 40 ≤ f → x = nI i → y = hsR r i → lockO (oILd 2 5) 0 (runK P_X0_heldSpots f k) k [some (.ref 1), some (.int y), some (.int x)] [] μ = X := by
  intro m
  induction m with
  | zero =>
    intro i f x y hi hf hx hy
    subst hx; subst hy
    obtain ⟨F, rfl⟩ : ∃ F, f = F + 40 := ⟨f - 40, by omega⟩
    have e : i = 10 := by omega
    subst e
    refine unO ?_
    exact hk
  | succ m ih =>
    intro i f x y hi hf hx hy
    subst hx; subst hy
    obtain ⟨F, rfl⟩ : ∃ F, f = F + 40 := ⟨f - 40, by omega⟩
    refine unO ?_
    refine brT (nI_lt (a := i) (b := 10) (by omega) (by decide)) ?_
    refine (@bfT _ _ _ _ _ (inB_nI (n := i) (L := 10) (by omega) (by decide))) ?_
    have e : μ 7 (nI i).toNatClampNeg = r (12 + i) := by
      rw [nI_cl (by omega)]
      exact hR.2.2.1 i (by omega)
    by_cases h : r (12 + i) = -1
    · refine brT (e.trans h) ?_
      refine ih (i + 1) _ _ _ (by omega) (by omega) (nI_succ i).symm ?_
      show _ = (if r (12 + i) = -1 then hsR r i else hsR r i + 1)
      rw [if_pos h]
    · refine brF (fun q => h (e.symm.trans q)) ?_
      refine ih (i + 1) _ _ _ (by omega) (by omega) (nI_succ i).symm ?_
      show _ = (if r (12 + i) = -1 then hsR r i else hsR r i + 1)
      rw [if_neg h]
set_option maxRecDepth 100000 in
theorem x_held {μ : Mem} {k : Rtn} {X : Option Rz} {r : Nat → Int32} (hR : Rep μ 1 r) (hk : k (some (.int (hsR r 10))) μ = X) : S_X0_heldSpots [.ref 1] μ k = X := by
  refine unl (bfT rfl ?_)
  exact held_loop hR hk 10 0 _ _ _ (by omega) (fu (by omega) rfl) rfl rfl
theorem ix12 (i : Nat) : (12 : Int32) + nI i = nI (12 + i) := by rw [show (12 : Int32) = nI 12 from rfl, nI_add]
set_option maxRecDepth 100000 in
theorem count_loop {k : Rtn} {X : Option Rz} {μ : Mem} {a : Int32} (hG : G1 (μ 50)) (hk : k (some (.int (hsR (μ 50) 10))) μ = X) :
    ∀ (m i f : Nat) (x y : Int32), i + m = 10 → 40 * m + 40 ≤ f → x = nI i → y = hsR (μ 50) i → lockO (oILd 3 96) 0 (runK P_X5_count f k) k [some (.ref 49), some (.int a), some (.int y), some (.int x)] [] μ = X := by
  intro m
  induction m with
  | zero =>
    intro i f x y hi hf hx hy
    subst hx; subst hy
    obtain ⟨F, rfl⟩ : ∃ F, f = F + 40 := ⟨f - 40, by omega⟩
    have e : i = 10 := by omega
    subst e
    refine unO ?_
    exact hk
  | succ m ih =>
    intro i f x y hi hf hx hy
    subst hx; subst hy
    obtain ⟨F, rfl⟩ : ∃ F, f = F + 40 := ⟨f - 40, by omega⟩
    have hi2 : inB ((12 : Int32) + nI i) 70 = true := by rw [ix12]; exact inB_nI (by omega) (by decide)
    have e : ra (μ 50) ((12 : Int32) + nI i) = μ 50 (12 + i) := by
      show μ 50 ((12 : Int32) + nI i).toNatClampNeg = _
      rw [ix12, nI_cl (by omega)]
    refine unO ?_
    refine brT (nI_lt (a := i) (b := 10) (by omega) (by decide)) ?_
    refine (@bfT _ _ _ _ _ (hi2)) ?_
    rcases hG.2.1 i (by omega) with h | ⟨d, hd, h⟩
    · have hl : ra (μ 50) ((12 : Int32) + nI i) < 0 := by rw [e, h]; decide
      refine brT hl ?_
      refine ih (i + 1) _ _ _ (by omega) (by omega) (nI_succ i).symm ?_
      show _ + 0 = (if μ 50 (12 + i) = -1 then hsR (μ 50) i else hsR (μ 50) i + 1)
      rw [if_pos h, Int32.add_zero]
    · have h8 := hG.n8
      have hl : ¬ ra (μ 50) ((12 : Int32) + nI i) < 0 := by rw [e, h]; exact nI_nl (by omega)
      have hn : ¬ μ 50 (12 + i) = -1 := fun q => hl (by rw [e, q]; decide)
      refine brF hl ?_
      refine ih (i + 1) _ _ _ (by omega) (by omega) (nI_succ i).symm ?_
      show _ + 1 = (if μ 50 (12 + i) = -1 then hsR (μ 50) i else hsR (μ 50) i + 1)
      rw [if_neg hn]
set_option maxRecDepth 100000 in
theorem T_count {μ : Mem} {k1 : Rtn} {K : Int32 → Rtn} {X : Option Rz} (hI : Inv μ) {a : Int32} (hm : ∀ v μ1, k1 (some (.int v)) μ1 = S_X5_count [.ref 49, .int a] μ1 (K v)) (hK : ∀ v w μ2, v = w → Inv μ2 → K v (some (.int w)) μ2 = X) : S_X4_count [.ref 0, .int a] μ k1 = X := by
  by_cases a0 : a = 0
  · subst a0
    refine unl (bfT rfl ?_)
    refine (hm _ _).trans ?_
    refine unl (bfT rfl ?_)
    exact hK _ _ _ hI.1.1.1.1 hI
  by_cases a1 : a = 1
  · subst a1
    refine unl (bfT rfl ?_)
    refine (hm _ _).trans ?_
    refine unl (bfT rfl ?_)
    exact hK _ _ _ hI.1.1.1.2.1 hI
  by_cases a2 : a = 2
  · subst a2
    refine unl (bfT rfl ?_)
    refine x_wrongs hI.1.1 hI.1.2 ?_
    refine (hm _ _).trans ?_
    refine unl (bfT rfl ?_)
    refine e_sumOf (g := 3) (by decide) rfl hI.1.2 ?_
    exact hK _ _ _ rfl hI
  by_cases a3 : a = 3
  · subst a3
    refine unl (bfT rfl ?_)
    refine (hm _ _).trans ?_
    refine unl (bfT rfl ?_)
    exact hK _ _ _ hI.1.1.1.2.2.2.2.2 hI
  by_cases a4 : a = 4
  · subst a4
    refine unl (bfT rfl ?_)
    refine x_tempers hI.1.1 hI.1.2 ?_
    refine (hm _ _).trans ?_
    refine unl (bfT rfl ?_)
    refine e_sumOf (g := 2) (by decide) rfl hI.1.2 ?_
    exact hK _ _ _ rfl hI
  by_cases a5 : a = 5
  · subst a5
    refine unl (bfT rfl ?_)
    refine (hm _ _).trans ?_
    refine unl (bfT rfl ?_)
    refine hK _ _ _ ?_ hI
    obtain ⟨n, hn, e1, e2, -⟩ := hI.2.2.1
    exact e1.trans e2.symm
  by_cases a6 : a = 6
  · subst a6
    refine unl (bfT rfl ?_)
    refine (hm _ _).trans ?_
    refine unl (bfT rfl ?_)
    exact hK _ _ _ hI.1.1.1.2.2.1 hI
  by_cases a7 : a = 7
  · subst a7
    refine unl (bfT rfl ?_)
    refine x_held hI.1.1 ?_
    refine (hm _ _).trans ?_
    refine unl (bfT rfl ?_)
    refine count_loop hI.1.2 ?_ 10 0 _ _ _ (by omega) (fu (by omega) rfl) rfl rfl
    exact hK _ _ _ rfl hI
  refine unl (bfT rfl ?_)
  repeat' (first | refine brF c10 ?_ | refine brT c00 ?_ | refine brF c01 ?_ | refine brT c11 ?_ | refine brT (by assumption) ?_ | refine brF (by assumption) ?_)
  refine x_tell0 ?_; refine (hm _ _).trans ?_; refine unl (bfT rfl ?_); (repeat' (first | refine brF c10 ?_ | refine brT c00 ?_ | refine brF c01 ?_ | refine brT c11 ?_ | refine brT (by assumption) ?_ | refine brF (by assumption) ?_)); refine e_find0 ?_; exact hK _ _ _ rfl (Inv_tell hI (by decide))
theorem ltm1 {a : Int32} (h : a < 0) (h1 : ¬ a = -1) : a < -1 := by
  rw [Int32.lt_iff_toInt_lt] at h ⊢
  have h2 : ¬ a.toInt = (-1 : Int32).toInt := fun q => h1 (Int32.toInt_inj.mp q)
  have e0 : (0 : Int32).toInt = 0 := by decide
  have e1 : (-1 : Int32).toInt = -1 := by decide
  rw [e1] at h2 ⊢
  rw [e0] at h
  omega
set_option maxRecDepth 100000 in
theorem T_status {μ : Mem} {k1 : Rtn} {K : Int32 → Rtn} {X : Option Rz} (hI : Inv μ) {a : Int32} (hm : ∀ v μ1, k1 (some (.int v)) μ1 = S_X5_status [.ref 49, .int a] μ1 (K v)) (hK : ∀ v w μ2, v = w → Inv μ2 → K v (some (.int w)) μ2 = X) : S_X4_status [.ref 0, .int a] μ k1 = X := by
  have i5 := hI.2.2.2.2
  by_cases h0 : a < 0
  · by_cases h1 : a = -1
    · subst h1
      refine unl (bfT rfl ?_)
      refine unO ?_
      refine unO ?_
      refine unO ?_
      refine unO ?_
      refine unO ?_
      refine unO ?_
      refine unO ?_
      refine unO ?_
      refine (hm _ _).trans ?_
      refine unl (bfT rfl ?_)
      refine hK _ _ _ ?_ hI
      show 0 + μ 48 0 + μ 48 1 + μ 48 2 + μ 48 3 + μ 48 4 + μ 48 5 + μ 48 6 = μ 53 0
      rw [i5.2, i5.1 0 (by decide), i5.1 1 (by decide), i5.1 2 (by decide), i5.1 3 (by decide), i5.1 4 (by decide), i5.1 5 (by decide), i5.1 6 (by decide), Int32.zero_add]
    · have h2 := ltm1 h0 h1
      refine unl (bfT rfl ?_)
      repeat' (first | refine brT (by assumption) ?_ | refine brF (by assumption) ?_ | refine br (fun q => ?_) (fun q => ?_))
      refine x_tell0 ?_; refine (hm _ _).trans ?_; refine unl (bfT rfl ?_); (repeat' (first | refine brF c10 ?_ | refine brT c00 ?_ | refine brF c01 ?_ | refine brT c11 ?_ | refine brT (by assumption) ?_ | refine brF (by assumption) ?_)); refine e_find0 ?_; exact hK _ _ _ rfl (Inv_tell hI (by decide))
  · by_cases h6 : 6 < a
    · have h3 : ¬ a < -1 := fun q => h0 (Int32.lt_trans q (by decide))
      have h4 : ¬ a = -1 := fun q => h0 (by rw [q]; decide)
      refine unl (bfT rfl ?_)
      repeat' (first | refine brT (by assumption) ?_ | refine brF (by assumption) ?_ | refine br (fun q => ?_) (fun q => ?_))
      refine x_tell0 ?_; refine (hm _ _).trans ?_; refine unl (bfT rfl ?_); (repeat' (first | refine brF c10 ?_ | refine brT c00 ?_ | refine brF c01 ?_ | refine brT c11 ?_ | refine brT (by assumption) ?_ | refine brF (by assumption) ?_)); refine e_find0 ?_; exact hK _ _ _ rfl (Inv_tell hI (by decide))
    · obtain ⟨j, hj, rfl⟩ := nlt_VB (n := 6) (x := a) (by decide) h0 h6
      rcases (by omega : j = 0 ∨ j = 1 ∨ j = 2 ∨ j = 3 ∨ j = 4 ∨ j = 5 ∨ j = 6) with rfl | rfl | rfl | rfl | rfl | rfl | rfl
      all_goals (refine unl (bfT rfl ?_))
      all_goals refine (hm _ _).trans ?_
      all_goals (refine unl (bfT rfl ?_))
      · exact hK _ _ _ (i5.1 0 (by decide)) hI
      · exact hK _ _ _ (i5.1 1 (by decide)) hI
      · exact hK _ _ _ (i5.1 2 (by decide)) hI
      · exact hK _ _ _ (i5.1 3 (by decide)) hI
      · exact hK _ _ _ (i5.1 4 (by decide)) hI
      · exact hK _ _ _ (i5.1 5 (by decide)) hI
      · exact hK _ _ _ (i5.1 6 (by decide)) hI
theorem Inv_tape {μ ν : Mem} (hI : Inv μ) (hh : ∀ i, ¬ i = 37 → ¬ i = 38 → ¬ i = 49 → ¬ i = 54 → ν i = μ i) (h3 : ν 49 3 = μ 49 3) (i3 : I3 ν) : Inv ν := by
  obtain ⟨i1, i2, -, i4, i5⟩ := hI
  have q : ∀ i, i ≤ 36 ∨ (40 ≤ i ∧ i ≤ 48) ∨ (50 ≤ i ∧ i ≤ 53) ∨ 55 ≤ i → ν i = μ i := fun i h => hh i (by omega) (by omega) (by omega) (by omega)
  refine ⟨⟨?_, ?_⟩, I2_same (by rw [q 0 (by omega)]) h3 (q 51 (by omega)) (fun i hi => q i (by unfold inC at hi; omega)) i2, i3, I4_same (fun i a b => q i (by omega)) (q 56 (by omega)) (q 57 (by omega)) (q 58 (by omega)) i4, I5_same (q 48 (by omega)) (q 53 (by omega)) i5⟩
  · rw [q 50 (by omega)]
    exact rep_same (fun i hi => q i (by unfold inC at hi; omega)) i1.2.n8 i1.1
  · rw [q 50 (by omega)]; exact i1.2
set_option maxRecDepth 100000 in
theorem T_wipe {μ : Mem} {k1 : Rtn} {K : Int32 → Rtn} {X : Option Rz} (hI : Inv μ) (hm : ∀ v μ1, k1 (some (.int v)) μ1 = S_X5_wipe [.ref 49] μ1 (K v)) (hK : ∀ v w μ2, v = w → Inv μ2 → K v (some (.int w)) μ2 = X) : S_X4_wipe [.ref 0] μ k1 = X := by
  obtain ⟨n, hn, e1, e2, -⟩ := hI.2.2.1
  refine unl (bfT rfl ?_)
  refine (hm _ _).trans ?_
  refine unl (bfT rfl ?_)
  refine hK _ _ _ (e1.trans e2.symm) (Inv_tape hI (fun i a b c d => ?_) rfl ⟨0, by omega, rfl, rfl, fun j hj => absurd hj (by omega)⟩)
  exact (up2_ne _ _ c).trans (up2_ne _ _ a)
abbrev byI (b x : Int32) : Int32 := (b >>> ((8 * x) &&& 31)) &&& 255
def tpF (f : Nat → Int32) (n : Nat) (b : Int32) : Nat → Nat → Int32
  | 0 => f
  | m + 1 => tpF (upf f n (byI b (nI m))) (n + 1) b m
theorem byI_b (b x : Int32) : VB (byI b x) 255 := by
  obtain ⟨j, hj, e⟩ := pk_andE (b >>> ((8 * x) &&& 31)) (m := 255) 8 (by decide)
  exact ⟨j, by omega, e⟩
theorem tpF_eq {b : Int32} : ∀ (m n : Nat) (f g : Nat → Int32), (∀ j, j < n → f j = g j ∧ VB (g j) 255) → ∀ j, j < n + m → tpF f n b m j = tpF g n b m j ∧ VB (tpF g n b m j) 255 := by
  intro m
  induction m with
  | zero => intro n f g h j hj; exact h j hj
  | succ m ih =>
    intro n f g h j hj
    refine ih (n + 1) _ _ (fun i hi => ?_) j (by omega)
    by_cases e : i = n
    · subst e
      rw [upf_at, upf_at]
      exact ⟨rfl, byI_b _ _⟩
    · rw [upf_ne _ _ e, upf_ne _ _ e]
      exact h i (by omega)
set_option maxRecDepth 100000 in
theorem x_append {μ : Mem} {k : Rtn} {X : Option Rz} {n : Nat} {v : Int32} (hn : n < 120) (e : μ 37 1 = nI n) (hk : ∀ μ', μ' = up2 (up2 μ 38 n v) 37 1 (nI (n + 1)) → k none μ' = X) : S_X3_append [.ref 37, .int v] μ k = X := by
  have h1 : inB (μ 37 1) 120 = true := by rw [e]; exact inB_nI hn (by decide)
  refine unl (bfT rfl ?_)
  refine (@bfT _ _ _ _ _ (h1)) ?_
  refine hk _ ?_
  show up2 (up2 μ 38 (μ 37 1).toNatClampNeg v) 37 1 (μ 37 1 + 1) = _
  rw [e, nI_cl (by omega), nI_succ]
theorem decI (m : Nat) : nI (m + 1) - 1 = nI m := by
  have := pk_sub (a := m + 1) (b := 1) (by omega)
  exact this
theorem pr1 (m : Nat) : nI m + -1 = nI m - 1 := by
  rw [Int32.sub_eq_add_neg]
set_option maxRecDepth 100000 in
theorem feedX_loop {k : Rtn} {X : Option Rz} {b N : Int32} :
    ∀ (m n f : Nat) (x : Int32) (ν : Mem), n + m ≤ 120 → 40 * m + 40 ≤ f → x = nI m - 1 → ν 37 1 = nI n → (∀ ν', ν' 38 = tpF (ν 38) n b m → ν' 37 1 = nI (n + m) → (∀ i, ¬ i = 37 → ¬ i = 38 → ν' i = ν i) → k (some (.int (nI (n + m)))) ν' = X) → lockO (oILd 3 42) 0 (runK P_X4_feed f k) k [some (.ref 0), some (.int b), some (.int N), some (.int x)] [] ν = X := by
  intro m
  induction m with
  | zero =>
    intro n f x ν hi hf hx h1 hk
    subst hx
    obtain ⟨F, rfl⟩ : ∃ F, f = F + 40 := ⟨f - 40, by omega⟩
    refine unO ?_
    have := hk ν rfl h1 (fun _ _ _ => rfl)
    rw [← this]
    show k (some (.int (ν 37 1))) ν = _
    rw [h1]
    rfl
  | succ m ih =>
    intro n f x ν hi hf hx h1 hk
    rw [decI] at hx
    subst hx
    obtain ⟨F, rfl⟩ : ∃ F, f = F + 40 := ⟨f - 40, by omega⟩
    refine unO ?_
    refine brF (nI_nl (n := m) (by omega)) ?_
    refine x_append (by omega) h1 (fun ν1 e1 => ?_)
    refine ih (n + 1) _ _ _ (by omega) (by omega) (pr1 m) ?_ (fun ν' a1 a2 a3 => ?_)
    · rw [e1, up2_at, upf_at]
    · have e9 : n + 1 + m = n + (m + 1) := by omega
      rw [e9] at a2 ⊢
      refine hk ν' ?_ a2 (fun i c d => ?_)
      · rw [a1, e1, up2_ne _ _ (by decide), up2_at]
        rfl
      · rw [a3 i c d, e1, up2_ne _ _ c, up2_ne _ _ d]
set_option maxRecDepth 100000 in
theorem feedM_loop {k : Rtn} {X : Option Rz} {b N : Int32} :
    ∀ (m n f : Nat) (x : Int32) (ν : Mem), n + m ≤ 120 → 40 * m + 40 ≤ f → x = nI m - 1 → ν 49 8 = nI n → (∀ ν', ν' 54 = tpF (ν 54) n b m → ν' 49 8 = nI (n + m) → ν' 49 3 = ν 49 3 → (∀ i, ¬ i = 49 → ¬ i = 54 → ν' i = ν i) → k (some (.int (nI (n + m)))) ν' = X) → lockO (oILd 3 39) 0 (runK P_X5_feed f k) k [some (.ref 49), some (.int b), some (.int N), some (.int x)] [] ν = X := by
  intro m
  induction m with
  | zero =>
    intro n f x ν hi hf hx h1 hk
    subst hx
    obtain ⟨F, rfl⟩ : ∃ F, f = F + 40 := ⟨f - 40, by omega⟩
    refine unO ?_
    have := hk ν rfl h1 rfl (fun _ _ _ => rfl)
    rw [← this]
    show k (some (.int (ν 49 8))) ν = _
    rw [h1]
    rfl
  | succ m ih =>
    intro n f x ν hi hf hx h1 hk
    rw [decI] at hx
    subst hx
    obtain ⟨F, rfl⟩ : ∃ F, f = F + 40 := ⟨f - 40, by omega⟩
    refine unO ?_
    refine brF (nI_nl (n := m) (by omega)) ?_
    have hb : inB (ν 49 8) 120 = true := by rw [h1]; exact inB_nI (by omega) (by decide)
    refine (@bfT _ _ _ _ _ (hb)) ?_
    refine ih (n + 1) _ _ _ (by omega) (by omega) (pr1 m) ?_ (fun ν' a1 a2 a3 a4 => ?_)
    · show up2 (up2 ν 54 (ν 49 8).toNatClampNeg (byI b (nI m))) 49 8 (ν 49 8 + 1) 49 8 = _
      rw [up2_at, upf_at, h1, nI_succ]
    · have e9 : n + 1 + m = n + (m + 1) := by omega
      rw [e9] at a2 ⊢
      refine hk ν' ?_ a2 a3 (fun i c d => ?_)
      · rw [a1]
        show tpF (upf (ν 54) (ν 49 8).toNatClampNeg (byI b (nI m))) (n + 1) b m = _
        rw [h1, nI_cl (by omega)]
        rfl
      · rw [a4 i c d]
        exact (up2_ne _ _ c).trans (up2_ne _ _ d)
theorem T_feed2 {μ ν ν' : Mem} {n m : Nat} {b : Int32} (hI : Inv μ) (hn : n + m ≤ 120) (e1 : μ 37 1 = nI n) (e2 : μ 49 8 = nI n) (e3 : ∀ j, j < n → μ 38 j = μ 54 j ∧ VB (μ 54 j) 255) (a1 : ν 38 = tpF (μ 38) n b m) (a2 : ν 37 1 = nI (n + m)) (a3 : ∀ i, ¬ i = 37 → ¬ i = 38 → ν i = μ i) (b1 : ν' 54 = tpF (ν 54) n b m) (b2 : ν' 49 8 = nI (n + m)) (b3 : ν' 49 3 = ν 49 3) (b4 : ∀ i, ¬ i = 49 → ¬ i = 54 → ν' i = ν i) : Inv ν' := by
  refine Inv_tape hI (fun i p q r s => (b4 i r s).trans (a3 i p q)) (by rw [b3, a3 49 (by decide) (by decide)]) ⟨n + m, hn, ?_, b2, fun j hj => ?_⟩
  · rw [b4 37 (by decide) (by decide)]; exact a2
  · rw [b4 38 (by decide) (by decide), a1, b1, a3 54 (by decide) (by decide)]
    exact tpF_eq m n _ _ e3 j hj
set_option maxRecDepth 100000 in
theorem T_feed {μ : Mem} {k1 : Rtn} {K : Int32 → Rtn} {X : Option Rz} (hI : Inv μ) {b a : Int32} (hm : ∀ v μ1, k1 (some (.int v)) μ1 = S_X5_feed [.ref 49, .int b, .int a] μ1 (K v)) (hK : ∀ v w μ2, v = w → Inv μ2 → K v (some (.int w)) μ2 = X) : S_X4_feed [.ref 0, .int b, .int a] μ k1 = X := by
  obtain ⟨n, hn, e1, e2, e3⟩ := hI.2.2.1
  by_cases h1 : a < 1
  · refine unl (bfT rfl ?_)
    repeat' (first | refine brT (by assumption) ?_ | refine brF (by assumption) ?_ | refine br (fun q => ?_) (fun q => ?_))
    refine x_tell0 ?_; refine (hm _ _).trans ?_; refine unl (bfT rfl ?_); (repeat' (first | refine brF c10 ?_ | refine brT c00 ?_ | refine brF c01 ?_ | refine brT c11 ?_ | refine brT (by assumption) ?_ | refine brF (by assumption) ?_)); refine e_find0 ?_; exact hK _ _ _ rfl (Inv_tell hI (by decide))
  by_cases h4 : 4 < a
  · refine unl (bfT rfl ?_)
    repeat' (first | refine brT (by assumption) ?_ | refine brF (by assumption) ?_ | refine br (fun q => ?_) (fun q => ?_))
    refine x_tell0 ?_; refine (hm _ _).trans ?_; refine unl (bfT rfl ?_); (repeat' (first | refine brF c10 ?_ | refine brT c00 ?_ | refine brF c01 ?_ | refine brT c11 ?_ | refine brT (by assumption) ?_ | refine brF (by assumption) ?_)); refine e_find0 ?_; exact hK _ _ _ rfl (Inv_tell hI (by decide))
  have h0 : ¬ a < 0 := fun q => h1 (Int32.lt_trans q (by decide))
  obtain ⟨m, hm4, rfl⟩ := nlt_VB (n := 4) (x := a) (by decide) h0 h4
  by_cases hf : 120 < n + m
  · have c1 : 120 < μ 37 1 + nI m := by rw [e1, nI_add]; exact nI_lt (a := 120) hf (by omega)
    have c2 : 120 < μ 49 8 + nI m := by rw [e2, nI_add]; exact nI_lt (a := 120) hf (by omega)
    refine unl (bfT rfl ?_)
    repeat' (first | refine brF c10 ?_ | refine brT c00 ?_ | refine brF c01 ?_ | refine brT c11 ?_ | refine brT (by assumption) ?_ | refine brF (by assumption) ?_)
    refine x_tell1 ?_; refine (hm _ _).trans ?_; refine unl (bfT rfl ?_); (repeat' (first | refine brF c10 ?_ | refine brT c00 ?_ | refine brF c01 ?_ | refine brT c11 ?_ | refine brT (by assumption) ?_ | refine brF (by assumption) ?_)); refine e_find1 ?_; exact hK _ _ _ rfl (Inv_tell hI (by decide))
  · have c1 : ¬ 120 < μ 37 1 + nI m := by rw [e1, nI_add]; exact nI_nlt (a := 120) (by omega) (by omega)
    have c2 : ¬ 120 < μ 49 8 + nI m := by rw [e2, nI_add]; exact nI_nlt (a := 120) (by omega) (by omega)
    refine unl (bfT rfl ?_)
    repeat' (first | refine brF c10 ?_ | refine brT c00 ?_ | refine brF c01 ?_ | refine brT c11 ?_ | refine brT (by assumption) ?_ | refine brF (by assumption) ?_)
    refine feedX_loop m n _ _ _ (by omega) (fu (by omega) rfl) rfl e1 (fun ν a1 a2 a3 => ?_)
    refine (hm _ _).trans ?_
    have e49 : ν 49 = μ 49 := a3 49 (by decide) (by decide)
    have c3 : ¬ 120 < ν 49 8 + nI m := by rw [e49]; exact c2
    refine unl (bfT rfl ?_)
    repeat' (first | refine brF c10 ?_ | refine brT c00 ?_ | refine brF c01 ?_ | refine brT c11 ?_ | refine brT (by assumption) ?_ | refine brF (by assumption) ?_)
    refine feedM_loop m n _ _ _ (by omega) (fu (by omega) rfl) rfl (by rw [e49]; exact e2) (fun ν' b1 b2 b3 b4 => ?_)
    exact hK _ _ _ rfl (T_feed2 hI (by omega) e1 e2 e3 a1 a2 a3 b1 b2 b3 b4)
def isUV (a b : Nat) : Int32 := bif Nat.beq b 0 || (Nat.beq a b || ((Nat.beq b 1 && Nat.beq a 6) || ((Nat.beq b 2 && (Nat.beq a 3 || Nat.beq a 4)) || (Nat.beq b 3 && Nat.beq a 4)))) then 1 else 0
set_option maxRecDepth 100000 in
theorem e_isUnder {μ : Mem} {k : Rtn} {X : Option Rz} {x y : Int32} {a b : Nat} (hx : x = nI a) (hy : y = nI b) (ha : a < 7) (hb : b < 7) (hk : k (some (.int (isUV a b))) μ = X) : S_X5_isUnder [.int x, .int y] μ k = X := by
  subst hx; subst hy
  rcases (by omega : a = 0 ∨ a = 1 ∨ a = 2 ∨ a = 3 ∨ a = 4 ∨ a = 5 ∨ a = 6) with rfl | rfl | rfl | rfl | rfl | rfl | rfl <;> rcases (by omega : b = 0 ∨ b = 1 ∨ b = 2 ∨ b = 3 ∨ b = 4 ∨ b = 5 ∨ b = 6) with rfl | rfl | rfl | rfl | rfl | rfl | rfl
  all_goals (refine unl (bfT rfl ?_))
  all_goals (repeat (refine unO ?_))
  all_goals exact hk
