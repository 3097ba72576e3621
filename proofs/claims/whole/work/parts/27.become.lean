/-! a court becomes another -/
def bcX (m n : Nat → Int32) : Nat → Int32 := upf (upf (upf (upf (upf (upf m 0 (n 0)) 1 (n 1)) 2 (n 2)) 3 (n 3)) 4 (n 4)) 5 (n 5)
theorem bcX_at {m n : Nat → Int32} {f : Nat} (hf : f < 6) : bcX m n f = n f := by
  rcases (by omega : f = 0 ∨ f = 1 ∨ f = 2 ∨ f = 3 ∨ f = 4 ∨ f = 5) with rfl | rfl | rfl | rfl | rfl | rfl <;> rfl
set_option maxRecDepth 100000 in
theorem x_dbec {μ : Mem} {k : Rtn} {X : Option Rz} {i j : Nat} (hi : Nat.beq (kd i) 1 = true) (hj : Nat.beq (kd j) 1 = true) (hij : ¬ j = i) (hk : ∀ μ', μ' = up1 μ i (bcX (μ i) (μ j)) → k none μ' = X) : S_X1_become [.ref i, .ref j] μ k = X := by
  refine unl (bfT rfl ?_)
  refine (@bfT _ _ _ _ _ (hj)) ?_
  refine (@bfT _ _ _ _ _ (hi)) ?_
  refine (@bfT _ _ _ _ _ (hj)) ?_
  refine (@bfT _ _ _ _ _ (hi)) ?_
  refine (@bfT _ _ _ _ _ (hj)) ?_
  refine (@bfT _ _ _ _ _ (hi)) ?_
  refine (@bfT _ _ _ _ _ (hj)) ?_
  refine (@bfT _ _ _ _ _ (hi)) ?_
  refine (@bfT _ _ _ _ _ (hj)) ?_
  refine (@bfT _ _ _ _ _ (hi)) ?_
  refine (@bfT _ _ _ _ _ (hj)) ?_
  refine (@bfT _ _ _ _ _ (hi)) ?_
  refine hk _ ?_
  simp only [up2, up1_at, up1_same, up1_ne _ _ hij]
  rfl
def RepI (μ : Mem) (c : Nat) (r : Nat → Int32) (i : Nat) : Prop :=
  (μ c 3 = r 0 ∧ μ c 7 = r 1 ∧ μ c 4 = r 2 ∧ μ c 0 = r 3 ∧ μ c 1 = r 4 ∧ μ c 2 = r 5) ∧ (∀ j, j < 6 → μ (3 + c) j = r (6 + j)) ∧ (∀ j, j < 10 → μ (6 + c) j = r (12 + j)) ∧ (∀ d, d < i → ∀ f, f < 6 → μ (5 + 8 * c + d) f = r (22 + 6 * d + f))
theorem rep_fr {μ ν : Mem} {c c' : Nat} {r : Nat → Int32} (hc : 1 ≤ c ∧ c ≤ 3) (hc' : 1 ≤ c' ∧ c' ≤ 3) (h : ¬ c = c') (hn : (r 1).toNatClampNeg ≤ 8) (hR : Rep μ c r) (hF : Fr c' μ ν) : Rep ν c r := by
  obtain ⟨h1, h7, h8, h9⟩ := hR
  have e0 : ν c = μ c := hF c (by unfold inC; omega)
  have e1 : ν (3 + c) = μ (3 + c) := hF _ (by unfold inC; omega)
  have e2 : ν (6 + c) = μ (6 + c) := hF _ (by unfold inC; omega)
  unfold Rep
  rw [e0, e1, e2]
  refine ⟨h1, h7, h8, fun d hd f hf => ?_⟩
  rw [hF (5 + 8 * c + d) (by unfold inC; omega)]
  exact h9 d hd f hf
theorem repI_put {ν : Mem} {c i : Nat} {R m : Nat → Int32} (hc : 1 ≤ c ∧ c ≤ 3) (h : RepI ν c R i) (hm : ∀ f, f < 6 → m f = R (22 + 6 * i + f)) : RepI (up1 ν (5 + 8 * c + i) m) c R (i + 1) := by
  obtain ⟨h1, h7, h8, h9⟩ := h
  unfold RepI
  rw [up1_ne ν m (show ¬ c = 5 + 8 * c + i by omega), up1_ne ν m (show ¬ 3 + c = 5 + 8 * c + i by omega), up1_ne ν m (show ¬ 6 + c = 5 + 8 * c + i by omega)]
  refine ⟨h1, h7, h8, fun d hd f hf => ?_⟩
  by_cases e : d = i
  · subst e; rw [up1_at]; exact hm f hf
  · rw [up1_ne ν m (by omega)]; exact h9 d (by omega) f hf
theorem cpy_at {f g : Nat → Int32} {n j : Nat} (h : j < n) : va_cpy f g 0 0 n j = f j := by
  rw [pk_cpy_in (by omega) (by omega)]
  simp
theorem kdq_3 {x : Int32} (h : dI x) : Nat.beq (kd (29 + x.toNatClampNeg)) 1 = true := by
  obtain ⟨d, hd, rfl⟩ := h
  rw [nI_cl (by omega)]
  have h9 : ∀ d, d < 8 → Nat.beq (kd (29 + d)) 1 = true := by decide
  exact h9 d hd
set_option maxRecDepth 100000 in
theorem become_loop_21 {k : Rtn} {X : Option Rz} {μ : Mem} {r : Nat → Int32} (hR : Rep μ 1 r) (hG : G1 r) (hk : ∀ μ', Rep μ' 2 r → Fr 2 μ μ' → k none μ' = X) :
    ∀ (m i f : Nat) (x : Int32) (ν : Mem), i + m = (r 1).toNatClampNeg → 40 * m + 40 ≤ f → x = nI i → RepI ν 2 r i → Fr 2 μ ν → lockO (oILd 2 81) 0 (runK P_X0_become f k) k [some (.ref 2), some (.ref 1), some (.int x)] [] ν = X := by
  intro m
  have h8 := hG.n8
  induction m with
  | zero =>
    intro i f x ν hi hf hx hI hF
    subst hx
    obtain ⟨F, rfl⟩ : ∃ F, f = F + 40 := ⟨f - 40, by omega⟩
    have e : i = (r 1).toNatClampNeg := by omega
    refine unO ?_
    have hc : ¬ nI i < ν 2 7 := by
      rw [hI.1.2.1, hG.n1, ← e]
      exact nI_nlt (Nat.le_refl _) (by omega)
    refine brF hc ?_
    refine hk _ ?_ hF
    rw [e] at hI
    exact hI
  | succ m ih =>
    intro i f x ν hi hf hx hI hF
    subst hx
    obtain ⟨F, rfl⟩ : ∃ F, f = F + 40 := ⟨f - 40, by omega⟩
    have hi8 : i < 8 := by omega
    have hd : dI (nI i) := ⟨i, hi8, rfl⟩
    have e5 : (nI i).toNatClampNeg = i := nI_cl (by omega)
    refine unO ?_
    have hc : nI i < ν 2 7 := by
      rw [hI.1.2.1, hG.n1]
      exact nI_lt (by omega) (by omega)
    refine brT hc ?_
    have hQ := rep_fr (c := 1) (c' := 2) ⟨by decide, by decide⟩ ⟨by decide, by decide⟩ (by decide) h8 hR hF
    refine (@bfT _ _ _ _ _ (in8 hd)) ?_
    refine (@bfT _ _ _ _ _ (in8 hd)) ?_
    refine (@bfT _ _ _ _ _ (kdq_2 hd)) ?_
    refine x_dbec (kdq_2 hd) (kdq_1 hd) (by show ¬ 13 + _ = 21 + _; omega) (fun μ1 e2 => ?_)
    rw [e5] at e2
    have e3 : μ1 = up1 ν (5 + 8 * 2 + i) (bcX (ν (5 + 8 * 2 + i)) (ν (5 + 8 * 1 + i))) := e2
    refine ih (i + 1) _ _ _ (by omega) (by omega) (nI_succ i).symm ?_ ?_
    · rw [e3]
      refine repI_put ⟨by decide, by decide⟩ hI (fun f hf => ?_)
      rw [bcX_at hf]
      exact hQ.2.2.2 i (by omega) f hf
    · rw [e3]
      exact hF.tr (Fr.up (inC_d (c := 2) hi8))
set_option maxRecDepth 100000 in
theorem x_bec_21 {μ : Mem} {k : Rtn} {X : Option Rz} {r : Nat → Int32} (hR : Rep μ 1 r) (hG : G1 r) (hk : ∀ μ', Rep μ' 2 r → Fr 2 μ μ' → k none μ' = X) : S_X0_become [.ref 2, .ref 1] μ k = X := by
  have h8 := hG.n8
  refine unl (bfT rfl ?_)
  refine become_loop_21 hR hG hk (r 1).toNatClampNeg 0 _ _ _ (by omega) (fu (by omega) rfl) rfl ?_ ?_
  · obtain ⟨⟨h1, h2, h3, h4, h5, h6⟩, h7, h8, h9⟩ := hR
    refine ⟨⟨h1, h2, h3, h4, h5, h6⟩, fun j hj => ?_, fun j hj => ?_, fun d hd => absurd hd (by omega)⟩
    · exact (cpy_at hj).trans (h7 j hj)
    · exact (cpy_at hj).trans (h8 j hj)
  · refine Fr.tr ?_ (Fr.up (c := 2) (Or.inl rfl))
    refine Fr.tr ?_ (Fr.up (c := 2) (Or.inr (Or.inr (Or.inl rfl))))
    refine Fr.tr ?_ (Fr.up (c := 2) (Or.inr (Or.inl rfl)))
    refine Fr.tr ?_ (Fr.up (c := 2) (Or.inl rfl))
    refine Fr.tr ?_ (Fr.up (c := 2) (Or.inl rfl))
    refine Fr.tr ?_ (Fr.up (c := 2) (Or.inl rfl))
    refine Fr.tr ?_ (Fr.up (c := 2) (Or.inl rfl))
    exact Fr.up (c := 2) (Or.inl rfl)
set_option maxRecDepth 100000 in
theorem become_loop_12 {k : Rtn} {X : Option Rz} {μ : Mem} {r : Nat → Int32} (hR : Rep μ 2 r) (hG : G1 r) (hk : ∀ μ', Rep μ' 1 r → Fr 1 μ μ' → k none μ' = X) :
    ∀ (m i f : Nat) (x : Int32) (ν : Mem), i + m = (r 1).toNatClampNeg → 40 * m + 40 ≤ f → x = nI i → RepI ν 1 r i → Fr 1 μ ν → lockO (oILd 2 81) 0 (runK P_X0_become f k) k [some (.ref 1), some (.ref 2), some (.int x)] [] ν = X := by
  intro m
  have h8 := hG.n8
  induction m with
  | zero =>
    intro i f x ν hi hf hx hI hF
    subst hx
    obtain ⟨F, rfl⟩ : ∃ F, f = F + 40 := ⟨f - 40, by omega⟩
    have e : i = (r 1).toNatClampNeg := by omega
    refine unO ?_
    have hc : ¬ nI i < ν 1 7 := by
      rw [hI.1.2.1, hG.n1, ← e]
      exact nI_nlt (Nat.le_refl _) (by omega)
    refine brF hc ?_
    refine hk _ ?_ hF
    rw [e] at hI
    exact hI
  | succ m ih =>
    intro i f x ν hi hf hx hI hF
    subst hx
    obtain ⟨F, rfl⟩ : ∃ F, f = F + 40 := ⟨f - 40, by omega⟩
    have hi8 : i < 8 := by omega
    have hd : dI (nI i) := ⟨i, hi8, rfl⟩
    have e5 : (nI i).toNatClampNeg = i := nI_cl (by omega)
    refine unO ?_
    have hc : nI i < ν 1 7 := by
      rw [hI.1.2.1, hG.n1]
      exact nI_lt (by omega) (by omega)
    refine brT hc ?_
    have hQ := rep_fr (c := 2) (c' := 1) ⟨by decide, by decide⟩ ⟨by decide, by decide⟩ (by decide) h8 hR hF
    refine (@bfT _ _ _ _ _ (in8 hd)) ?_
    refine (@bfT _ _ _ _ _ (in8 hd)) ?_
    refine (@bfT _ _ _ _ _ (kdq_1 hd)) ?_
    refine x_dbec (kdq_1 hd) (kdq_2 hd) (by show ¬ 21 + _ = 13 + _; omega) (fun μ1 e2 => ?_)
    rw [e5] at e2
    have e3 : μ1 = up1 ν (5 + 8 * 1 + i) (bcX (ν (5 + 8 * 1 + i)) (ν (5 + 8 * 2 + i))) := e2
    refine ih (i + 1) _ _ _ (by omega) (by omega) (nI_succ i).symm ?_ ?_
    · rw [e3]
      refine repI_put ⟨by decide, by decide⟩ hI (fun f hf => ?_)
      rw [bcX_at hf]
      exact hQ.2.2.2 i (by omega) f hf
    · rw [e3]
      exact hF.tr (Fr.up (inC_d (c := 1) hi8))
set_option maxRecDepth 100000 in
theorem x_bec_12 {μ : Mem} {k : Rtn} {X : Option Rz} {r : Nat → Int32} (hR : Rep μ 2 r) (hG : G1 r) (hk : ∀ μ', Rep μ' 1 r → Fr 1 μ μ' → k none μ' = X) : S_X0_become [.ref 1, .ref 2] μ k = X := by
  have h8 := hG.n8
  refine unl (bfT rfl ?_)
  refine become_loop_12 hR hG hk (r 1).toNatClampNeg 0 _ _ _ (by omega) (fu (by omega) rfl) rfl ?_ ?_
  · obtain ⟨⟨h1, h2, h3, h4, h5, h6⟩, h7, h8, h9⟩ := hR
    refine ⟨⟨h1, h2, h3, h4, h5, h6⟩, fun j hj => ?_, fun j hj => ?_, fun d hd => absurd hd (by omega)⟩
    · exact (cpy_at hj).trans (h7 j hj)
    · exact (cpy_at hj).trans (h8 j hj)
  · refine Fr.tr ?_ (Fr.up (c := 1) (Or.inl rfl))
    refine Fr.tr ?_ (Fr.up (c := 1) (Or.inr (Or.inr (Or.inl rfl))))
    refine Fr.tr ?_ (Fr.up (c := 1) (Or.inr (Or.inl rfl)))
    refine Fr.tr ?_ (Fr.up (c := 1) (Or.inl rfl))
    refine Fr.tr ?_ (Fr.up (c := 1) (Or.inl rfl))
    refine Fr.tr ?_ (Fr.up (c := 1) (Or.inl rfl))
    refine Fr.tr ?_ (Fr.up (c := 1) (Or.inl rfl))
    exact Fr.up (c := 1) (Or.inl rfl)
set_option maxRecDepth 100000 in
theorem become_loop_31 {k : Rtn} {X : Option Rz} {μ : Mem} {r : Nat → Int32} (hR : Rep μ 1 r) (hG : G1 r) (hk : ∀ μ', Rep μ' 3 r → Fr 3 μ μ' → k none μ' = X) :
    ∀ (m i f : Nat) (x : Int32) (ν : Mem), i + m = (r 1).toNatClampNeg → 40 * m + 40 ≤ f → x = nI i → RepI ν 3 r i → Fr 3 μ ν → lockO (oILd 2 81) 0 (runK P_X0_become f k) k [some (.ref 3), some (.ref 1), some (.int x)] [] ν = X := by
  intro m
  have h8 := hG.n8
  induction m with
  | zero =>
    intro i f x ν hi hf hx hI hF
    subst hx
    obtain ⟨F, rfl⟩ : ∃ F, f = F + 40 := ⟨f - 40, by omega⟩
    have e : i = (r 1).toNatClampNeg := by omega
    refine unO ?_
    have hc : ¬ nI i < ν 3 7 := by
      rw [hI.1.2.1, hG.n1, ← e]
      exact nI_nlt (Nat.le_refl _) (by omega)
    refine brF hc ?_
    refine hk _ ?_ hF
    rw [e] at hI
    exact hI
  | succ m ih =>
    intro i f x ν hi hf hx hI hF
    subst hx
    obtain ⟨F, rfl⟩ : ∃ F, f = F + 40 := ⟨f - 40, by omega⟩
    have hi8 : i < 8 := by omega
    have hd : dI (nI i) := ⟨i, hi8, rfl⟩
    have e5 : (nI i).toNatClampNeg = i := nI_cl (by omega)
    refine unO ?_
    have hc : nI i < ν 3 7 := by
      rw [hI.1.2.1, hG.n1]
      exact nI_lt (by omega) (by omega)
    refine brT hc ?_
    have hQ := rep_fr (c := 1) (c' := 3) ⟨by decide, by decide⟩ ⟨by decide, by decide⟩ (by decide) h8 hR hF
    refine (@bfT _ _ _ _ _ (in8 hd)) ?_
    refine (@bfT _ _ _ _ _ (in8 hd)) ?_
    refine (@bfT _ _ _ _ _ (kdq_3 hd)) ?_
    refine x_dbec (kdq_3 hd) (kdq_1 hd) (by show ¬ 13 + _ = 29 + _; omega) (fun μ1 e2 => ?_)
    rw [e5] at e2
    have e3 : μ1 = up1 ν (5 + 8 * 3 + i) (bcX (ν (5 + 8 * 3 + i)) (ν (5 + 8 * 1 + i))) := e2
    refine ih (i + 1) _ _ _ (by omega) (by omega) (nI_succ i).symm ?_ ?_
    · rw [e3]
      refine repI_put ⟨by decide, by decide⟩ hI (fun f hf => ?_)
      rw [bcX_at hf]
      exact hQ.2.2.2 i (by omega) f hf
    · rw [e3]
      exact hF.tr (Fr.up (inC_d (c := 3) hi8))
set_option maxRecDepth 100000 in
theorem x_bec_31 {μ : Mem} {k : Rtn} {X : Option Rz} {r : Nat → Int32} (hR : Rep μ 1 r) (hG : G1 r) (hk : ∀ μ', Rep μ' 3 r → Fr 3 μ μ' → k none μ' = X) : S_X0_become [.ref 3, .ref 1] μ k = X := by
  have h8 := hG.n8
  refine unl (bfT rfl ?_)
  refine become_loop_31 hR hG hk (r 1).toNatClampNeg 0 _ _ _ (by omega) (fu (by omega) rfl) rfl ?_ ?_
  · obtain ⟨⟨h1, h2, h3, h4, h5, h6⟩, h7, h8, h9⟩ := hR
    refine ⟨⟨h1, h2, h3, h4, h5, h6⟩, fun j hj => ?_, fun j hj => ?_, fun d hd => absurd hd (by omega)⟩
    · exact (cpy_at hj).trans (h7 j hj)
    · exact (cpy_at hj).trans (h8 j hj)
  · refine Fr.tr ?_ (Fr.up (c := 3) (Or.inl rfl))
    refine Fr.tr ?_ (Fr.up (c := 3) (Or.inr (Or.inr (Or.inl rfl))))
    refine Fr.tr ?_ (Fr.up (c := 3) (Or.inr (Or.inl rfl)))
    refine Fr.tr ?_ (Fr.up (c := 3) (Or.inl rfl))
    refine Fr.tr ?_ (Fr.up (c := 3) (Or.inl rfl))
    refine Fr.tr ?_ (Fr.up (c := 3) (Or.inl rfl))
    refine Fr.tr ?_ (Fr.up (c := 3) (Or.inl rfl))
    exact Fr.up (c := 3) (Or.inl rfl)
set_option maxRecDepth 100000 in
theorem become_loop_13 {k : Rtn} {X : Option Rz} {μ : Mem} {r : Nat → Int32} (hR : Rep μ 3 r) (hG : G1 r) (hk : ∀ μ', Rep μ' 1 r → Fr 1 μ μ' → k none μ' = X) :
    ∀ (m i f : Nat) (x : Int32) (ν : Mem), i + m = (r 1).toNatClampNeg → 40 * m + 40 ≤ f → x = nI i → RepI ν 1 r i → Fr 1 μ ν → lockO (oILd 2 81) 0 (runK P_X0_become f k) k [some (.ref 1), some (.ref 3), some (.int x)] [] ν = X := by
  intro m
  have h8 := hG.n8
  induction m with
  | zero =>
    intro i f x ν hi hf hx hI hF
    subst hx
    obtain ⟨F, rfl⟩ : ∃ F, f = F + 40 := ⟨f - 40, by omega⟩
    have e : i = (r 1).toNatClampNeg := by omega
    refine unO ?_
    have hc : ¬ nI i < ν 1 7 := by
      rw [hI.1.2.1, hG.n1, ← e]
      exact nI_nlt (Nat.le_refl _) (by omega)
    refine brF hc ?_
    refine hk _ ?_ hF
    rw [e] at hI
    exact hI
  | succ m ih =>
    intro i f x ν hi hf hx hI hF
    subst hx
    obtain ⟨F, rfl⟩ : ∃ F, f = F + 40 := ⟨f - 40, by omega⟩
    have hi8 : i < 8 := by omega
    have hd : dI (nI i) := ⟨i, hi8, rfl⟩
    have e5 : (nI i).toNatClampNeg = i := nI_cl (by omega)
    refine unO ?_
    have hc : nI i < ν 1 7 := by
      rw [hI.1.2.1, hG.n1]
      exact nI_lt (by omega) (by omega)
    refine brT hc ?_
    have hQ := rep_fr (c := 3) (c' := 1) ⟨by decide, by decide⟩ ⟨by decide, by decide⟩ (by decide) h8 hR hF
    refine (@bfT _ _ _ _ _ (in8 hd)) ?_
    refine (@bfT _ _ _ _ _ (in8 hd)) ?_
    refine (@bfT _ _ _ _ _ (kdq_1 hd)) ?_
    refine x_dbec (kdq_1 hd) (kdq_3 hd) (by show ¬ 29 + _ = 13 + _; omega) (fun μ1 e2 => ?_)
    rw [e5] at e2
    have e3 : μ1 = up1 ν (5 + 8 * 1 + i) (bcX (ν (5 + 8 * 1 + i)) (ν (5 + 8 * 3 + i))) := e2
    refine ih (i + 1) _ _ _ (by omega) (by omega) (nI_succ i).symm ?_ ?_
    · rw [e3]
      refine repI_put ⟨by decide, by decide⟩ hI (fun f hf => ?_)
      rw [bcX_at hf]
      exact hQ.2.2.2 i (by omega) f hf
    · rw [e3]
      exact hF.tr (Fr.up (inC_d (c := 1) hi8))
set_option maxRecDepth 100000 in
theorem x_bec_13 {μ : Mem} {k : Rtn} {X : Option Rz} {r : Nat → Int32} (hR : Rep μ 3 r) (hG : G1 r) (hk : ∀ μ', Rep μ' 1 r → Fr 1 μ μ' → k none μ' = X) : S_X0_become [.ref 1, .ref 3] μ k = X := by
  have h8 := hG.n8
  refine unl (bfT rfl ?_)
  refine become_loop_13 hR hG hk (r 1).toNatClampNeg 0 _ _ _ (by omega) (fu (by omega) rfl) rfl ?_ ?_
  · obtain ⟨⟨h1, h2, h3, h4, h5, h6⟩, h7, h8, h9⟩ := hR
    refine ⟨⟨h1, h2, h3, h4, h5, h6⟩, fun j hj => ?_, fun j hj => ?_, fun d hd => absurd hd (by omega)⟩
    · exact (cpy_at hj).trans (h7 j hj)
    · exact (cpy_at hj).trans (h8 j hj)
  · refine Fr.tr ?_ (Fr.up (c := 1) (Or.inl rfl))
    refine Fr.tr ?_ (Fr.up (c := 1) (Or.inr (Or.inr (Or.inl rfl))))
    refine Fr.tr ?_ (Fr.up (c := 1) (Or.inr (Or.inl rfl)))
    refine Fr.tr ?_ (Fr.up (c := 1) (Or.inl rfl))
    refine Fr.tr ?_ (Fr.up (c := 1) (Or.inl rfl))
    refine Fr.tr ?_ (Fr.up (c := 1) (Or.inl rfl))
    refine Fr.tr ?_ (Fr.up (c := 1) (Or.inl rfl))
    exact Fr.up (c := 1) (Or.inl rfl)
