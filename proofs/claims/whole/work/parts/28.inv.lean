/-! what holds between calls -/
def I1 (μ : Mem) : Prop := Rep μ 1 (μ 50) ∧ G1 (μ 50)
def I2 (μ : Mem) : Prop := (μ 0 3 = 0 ∧ μ 49 3 = 0) ∨ (μ 0 3 = 1 ∧ μ 49 3 = 1 ∧ Rep μ 3 (μ 51) ∧ G1 (μ 51))
def I3 (μ : Mem) : Prop := ∃ n : Nat, n ≤ 120 ∧ μ 37 1 = nI n ∧ μ 49 8 = nI n ∧ ∀ j, j < n → μ 38 j = μ 54 j ∧ VB (μ 54 j) 255
def I4 (μ : Mem) : Prop := ∀ s, s < 4 → μ (40 + s) 0 = μ 56 s ∧ μ (40 + s) 1 = μ 57 s ∧ (μ 56 s = 0 ∨ μ 56 s = 8 ∨ μ 56 s = 16 ∨ μ 56 s = 32) ∧ VB (μ 57 s) 40 ∧ ∀ j, j < 40 → μ (44 + s) j = μ 58 (40 * s + j)
def I5 (μ : Mem) : Prop := (∀ j, j < 7 → μ 48 j = μ 53 (j + 1)) ∧ μ 53 0 = μ 53 1 + μ 53 2 + μ 53 3 + μ 53 4 + μ 53 5 + μ 53 6 + μ 53 7
def Inv (μ : Mem) : Prop := I1 μ ∧ I2 μ ∧ I3 μ ∧ I4 μ ∧ I5 μ
theorem rep_same {μ ν : Mem} {c : Nat} {r : Nat → Int32} (h : ∀ i, inC c i → ν i = μ i) (hn : (r 1).toNatClampNeg ≤ 8) (hR : Rep μ c r) : Rep ν c r := by
  obtain ⟨h1, h7, h8, h9⟩ := hR
  unfold Rep
  rw [h c (Or.inl rfl), h (3 + c) (Or.inr (Or.inl rfl)), h (6 + c) (Or.inr (Or.inr (Or.inl rfl)))]
  refine ⟨h1, h7, h8, fun d hd f hf => ?_⟩
  rw [h (5 + 8 * c + d) (inC_d (by omega))]
  exact h9 d hd f hf
theorem I2_same {μ ν : Mem} (h0 : ν 0 3 = μ 0 3) (h49 : ν 49 3 = μ 49 3) (h51 : ν 51 = μ 51) (h : ∀ i, inC 3 i → ν i = μ i) (hI : I2 μ) : I2 ν := by
  unfold I2
  rw [h0, h49, h51]
  rcases hI with q | ⟨q1, q2, q3, q4⟩
  · exact Or.inl q
  · exact Or.inr ⟨q1, q2, rep_same h q4.n8 q3, q4⟩
theorem I3_same {μ ν : Mem} (h1 : ν 37 = μ 37) (h2 : ν 38 = μ 38) (h3 : ν 49 8 = μ 49 8) (h4 : ν 54 = μ 54) (hI : I3 μ) : I3 ν := by
  unfold I3
  rw [h1, h2, h3, h4]
  exact hI
theorem I4_same {μ ν : Mem} (h : ∀ i, 40 ≤ i → i ≤ 47 → ν i = μ i) (h1 : ν 56 = μ 56) (h2 : ν 57 = μ 57) (h3 : ν 58 = μ 58) (hI : I4 μ) : I4 ν := by
  intro s hs
  rw [h (40 + s) (by omega) (by omega), h (44 + s) (by omega) (by omega), h1, h2, h3]
  exact hI s hs
theorem I5_same {μ ν : Mem} (h1 : ν 48 = μ 48) (h2 : ν 53 = μ 53) (hI : I5 μ) : I5 ν := by
  unfold I5
  rw [h1, h2]
  exact hI
/-- only the courts real and trial, the rows now and aside have changed -/
def FrA (μ ν : Mem) : Prop := ∀ i, ¬ inC 1 i → ¬ inC 2 i → ¬ i = 50 → ¬ i = 52 → ν i = μ i
theorem FrA.rf {μ : Mem} : FrA μ μ := fun _ _ _ _ _ => rfl
theorem FrA.tr {μ μ1 μ2 : Mem} (h1 : FrA μ μ1) (h2 : FrA μ1 μ2) : FrA μ μ2 := fun i a b c d => (h2 i a b c d).trans (h1 i a b c d)
theorem FrA.c1 {μ ν : Mem} (h : Fr 1 μ ν) : FrA μ ν := fun i a _ _ _ => h i a
theorem FrA.c2 {μ ν : Mem} (h : Fr 2 μ ν) : FrA μ ν := fun i _ b _ _ => h i b
theorem FrA.up50 {μ : Mem} {a : Nat → Int32} : FrA μ (up1 μ 50 a) := fun i _ _ c _ => up1_ne _ _ c
theorem FrA.up52 {μ : Mem} {a : Nat → Int32} : FrA μ (up1 μ 52 a) := fun i _ _ _ d => up1_ne _ _ d
theorem Inv_court {μ ν : Mem} (hI : Inv μ) (hF : FrA μ ν) (h1 : I1 ν) : Inv ν := by
  obtain ⟨-, i2, i3, i4, i5⟩ := hI
  have hh : ∀ i, (i = 0 ∨ i = 3 ∨ i = 6 ∨ i = 9 ∨ 29 ≤ i) → ¬ i = 50 → ¬ i = 52 → ν i = μ i := fun i q c d => hF i (by unfold inC; omega) (by unfold inC; omega) c d
  refine ⟨h1, I2_same (by rw [hh 0 (by omega) (by decide) (by decide)]) (by rw [hh 49 (by omega) (by decide) (by decide)]) (hh 51 (by omega) (by decide) (by decide)) (fun i hi => hh i (by unfold inC at hi; omega) (by unfold inC at hi; omega) (by unfold inC at hi; omega)) i2, I3_same (hh 37 (by omega) (by decide) (by decide)) (hh 38 (by omega) (by decide) (by decide)) (by rw [hh 49 (by omega) (by decide) (by decide)]) (hh 54 (by omega) (by decide) (by decide)) i3, I4_same (fun i a b => hh i (by omega) (by omega) (by omega)) (hh 56 (by omega) (by decide) (by decide)) (hh 57 (by omega) (by decide) (by decide)) (hh 58 (by omega) (by decide) (by decide)) i4, I5_same (hh 48 (by omega) (by decide) (by decide)) (hh 53 (by omega) (by decide) (by decide)) i5⟩
/-- findings -/
theorem sum7_0 (a1 a2 a3 a4 a5 a6 a7 : Int32) : a1 + a2 + a3 + a4 + a5 + a6 + a7 + 1 = (a1 + 1) + a2 + a3 + a4 + a5 + a6 + a7 := by ac_rfl
theorem sum7_1 (a1 a2 a3 a4 a5 a6 a7 : Int32) : a1 + a2 + a3 + a4 + a5 + a6 + a7 + 1 = a1 + (a2 + 1) + a3 + a4 + a5 + a6 + a7 := by ac_rfl
theorem sum7_2 (a1 a2 a3 a4 a5 a6 a7 : Int32) : a1 + a2 + a3 + a4 + a5 + a6 + a7 + 1 = a1 + a2 + (a3 + 1) + a4 + a5 + a6 + a7 := by ac_rfl
theorem sum7_3 (a1 a2 a3 a4 a5 a6 a7 : Int32) : a1 + a2 + a3 + a4 + a5 + a6 + a7 + 1 = a1 + a2 + a3 + (a4 + 1) + a5 + a6 + a7 := by ac_rfl
theorem sum7_4 (a1 a2 a3 a4 a5 a6 a7 : Int32) : a1 + a2 + a3 + a4 + a5 + a6 + a7 + 1 = a1 + a2 + a3 + a4 + (a5 + 1) + a6 + a7 := by ac_rfl
theorem sum7_5 (a1 a2 a3 a4 a5 a6 a7 : Int32) : a1 + a2 + a3 + a4 + a5 + a6 + a7 + 1 = a1 + a2 + a3 + a4 + a5 + (a6 + 1) + a7 := by ac_rfl
theorem sum7_6 (a1 a2 a3 a4 a5 a6 a7 : Int32) : a1 + a2 + a3 + a4 + a5 + a6 + a7 + 1 = a1 + a2 + a3 + a4 + a5 + a6 + (a7 + 1) := by ac_rfl
def telM (μ : Mem) (j : Nat) : Mem := up2 μ 48 j (μ 48 j + 1)
def fndM (μ : Mem) (j : Nat) : Mem := up2 (up2 μ 53 (j + 1) (μ 53 (j + 1) + 1)) 53 0 (μ 53 0 + 1)
theorem Inv_tell {μ : Mem} (hI : Inv μ) {j : Nat} (hj : j < 7) : Inv (fndM (telM μ j) j) := by
  obtain ⟨i1, i2, i3, i4, i5, i6⟩ := hI
  have hh : ∀ i, ¬ i = 48 → ¬ i = 53 → fndM (telM μ j) j i = μ i := fun i a b => by
    unfold fndM telM
    rw [up2_ne _ _ b, up2_ne _ _ b, up2_ne _ _ a]
  refine ⟨⟨?_, ?_⟩, I2_same (by rw [hh 0 (by decide) (by decide)]) (by rw [hh 49 (by decide) (by decide)]) (hh 51 (by decide) (by decide)) (fun i hi => hh i (by unfold inC at hi; omega) (by unfold inC at hi; omega)) i2, I3_same (hh 37 (by decide) (by decide)) (hh 38 (by decide) (by decide)) (by rw [hh 49 (by decide) (by decide)]) (hh 54 (by decide) (by decide)) i3, I4_same (fun i a b => hh i (by omega) (by omega)) (hh 56 (by decide) (by decide)) (hh 57 (by decide) (by decide)) (hh 58 (by decide) (by decide)) i4, ?_⟩
  · rw [hh 50 (by decide) (by decide)]
    exact rep_same (fun i hi => hh i (by unfold inC at hi; omega) (by unfold inC at hi; omega)) i1.2.n8 i1.1
  · rw [hh 50 (by decide) (by decide)]; exact i1.2
  · have e48 : fndM (telM μ j) j 48 = upf (μ 48) j (μ 48 j + 1) := by
      unfold fndM telM
      rw [up2_ne _ _ (by decide), up2_ne _ _ (by decide), up2_at]
    have e53 : fndM (telM μ j) j 53 = upf (upf (μ 53) (j + 1) (μ 53 (j + 1) + 1)) 0 (μ 53 0 + 1) := by
      unfold fndM telM
      rw [up2_at, up2_at, up2_ne μ _ (show ¬ 53 = 48 by decide)]
    unfold I5
    rw [e48, e53]
    refine ⟨fun i hi => ?_, ?_⟩
    · rw [upf_ne _ _ (show ¬ i + 1 = 0 by omega)]
      by_cases e : i = j
      · subst e; rw [upf_at, upf_at, i5 i hi]
      · rw [upf_ne _ _ e, upf_ne _ _ (by omega)]; exact i5 i hi
    · rw [upf_at, upf_ne _ _ (show ¬ 1 = 0 by decide), upf_ne _ _ (show ¬ 2 = 0 by decide), upf_ne _ _ (show ¬ 3 = 0 by decide), upf_ne _ _ (show ¬ 4 = 0 by decide), upf_ne _ _ (show ¬ 5 = 0 by decide), upf_ne _ _ (show ¬ 6 = 0 by decide), upf_ne _ _ (show ¬ 7 = 0 by decide), i6]
      rcases (by omega : j = 0 ∨ j = 1 ∨ j = 2 ∨ j = 3 ∨ j = 4 ∨ j = 5 ∨ j = 6) with rfl | rfl | rfl | rfl | rfl | rfl | rfl
      · exact sum7_0 _ _ _ _ _ _ _
      · exact sum7_1 _ _ _ _ _ _ _
      · exact sum7_2 _ _ _ _ _ _ _
      · exact sum7_3 _ _ _ _ _ _ _
      · exact sum7_4 _ _ _ _ _ _ _
      · exact sum7_5 _ _ _ _ _ _ _
      · exact sum7_6 _ _ _ _ _ _ _
set_option maxRecDepth 100000 in
theorem x_tell0 {μ : Mem} {k : Rtn} {X : Option Rz} (hk : k (some (.int (-1000001))) (telM μ 0) = X) : S_X4_tell [.ref 0, .int (-1000001)] μ k = X := by
  refine unl (bfT rfl ?_)
  exact hk
set_option maxRecDepth 100000 in
theorem e_find0 {μ : Mem} {k : Rtn} {X : Option Rz} (hk : k (some (.int (-1000001))) (fndM μ 0) = X) : S_X5_finding [.ref 49, .int (-1000001)] μ k = X := by
  refine unl (bfT rfl ?_)
  exact hk
set_option maxRecDepth 100000 in
theorem x_tell1 {μ : Mem} {k : Rtn} {X : Option Rz} (hk : k (some (.int (-1000002))) (telM μ 1) = X) : S_X4_tell [.ref 0, .int (-1000002)] μ k = X := by
  refine unl (bfT rfl ?_)
  exact hk
set_option maxRecDepth 100000 in
theorem e_find1 {μ : Mem} {k : Rtn} {X : Option Rz} (hk : k (some (.int (-1000002))) (fndM μ 1) = X) : S_X5_finding [.ref 49, .int (-1000002)] μ k = X := by
  refine unl (bfT rfl ?_)
  exact hk
set_option maxRecDepth 100000 in
theorem x_tell2 {μ : Mem} {k : Rtn} {X : Option Rz} (hk : k (some (.int (-1000003))) (telM μ 2) = X) : S_X4_tell [.ref 0, .int (-1000003)] μ k = X := by
  refine unl (bfT rfl ?_)
  exact hk
set_option maxRecDepth 100000 in
theorem e_find2 {μ : Mem} {k : Rtn} {X : Option Rz} (hk : k (some (.int (-1000003))) (fndM μ 2) = X) : S_X5_finding [.ref 49, .int (-1000003)] μ k = X := by
  refine unl (bfT rfl ?_)
  exact hk
set_option maxRecDepth 100000 in
theorem x_tell3 {μ : Mem} {k : Rtn} {X : Option Rz} (hk : k (some (.int (-1000004))) (telM μ 3) = X) : S_X4_tell [.ref 0, .int (-1000004)] μ k = X := by
  refine unl (bfT rfl ?_)
  exact hk
set_option maxRecDepth 100000 in
theorem e_find3 {μ : Mem} {k : Rtn} {X : Option Rz} (hk : k (some (.int (-1000004))) (fndM μ 3) = X) : S_X5_finding [.ref 49, .int (-1000004)] μ k = X := by
  refine unl (bfT rfl ?_)
  exact hk
set_option maxRecDepth 100000 in
theorem x_tell4 {μ : Mem} {k : Rtn} {X : Option Rz} (hk : k (some (.int (-1000005))) (telM μ 4) = X) : S_X4_tell [.ref 0, .int (-1000005)] μ k = X := by
  refine unl (bfT rfl ?_)
  exact hk
set_option maxRecDepth 100000 in
theorem e_find4 {μ : Mem} {k : Rtn} {X : Option Rz} (hk : k (some (.int (-1000005))) (fndM μ 4) = X) : S_X5_finding [.ref 49, .int (-1000005)] μ k = X := by
  refine unl (bfT rfl ?_)
  exact hk
set_option maxRecDepth 100000 in
theorem x_tell5 {μ : Mem} {k : Rtn} {X : Option Rz} (hk : k (some (.int (-1000006))) (telM μ 5) = X) : S_X4_tell [.ref 0, .int (-1000006)] μ k = X := by
  refine unl (bfT rfl ?_)
  exact hk
set_option maxRecDepth 100000 in
theorem e_find5 {μ : Mem} {k : Rtn} {X : Option Rz} (hk : k (some (.int (-1000006))) (fndM μ 5) = X) : S_X5_finding [.ref 49, .int (-1000006)] μ k = X := by
  refine unl (bfT rfl ?_)
  exact hk
set_option maxRecDepth 100000 in
theorem x_tell6 {μ : Mem} {k : Rtn} {X : Option Rz} (hk : k (some (.int (-1000007))) (telM μ 6) = X) : S_X4_tell [.ref 0, .int (-1000007)] μ k = X := by
  refine unl (bfT rfl ?_)
  exact hk
set_option maxRecDepth 100000 in
theorem e_find6 {μ : Mem} {k : Rtn} {X : Option Rz} (hk : k (some (.int (-1000007))) (fndM μ 6) = X) : S_X5_finding [.ref 49, .int (-1000007)] μ k = X := by
  refine unl (bfT rfl ?_)
  exact hk
