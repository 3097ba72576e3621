/-! disputants of the class -/
theorem x_pap {μ : Mem} {k : Rtn} {X : Option Rz} {i : Nat} {s : Int32} (hb : Nat.beq (kd i) 1 = true) (hk : k (some (.int (parsonV (μ i 1) s))) μ = X) : S_X1_pressesAsParson [.ref i, .int s] μ k = X := by
  rw [← hk]
  refine unl (bfT rfl ?_)
  refine (@bfT _ _ _ _ _ (hb)) ?_
  refine brk (fun h => rfl) (fun h => ?_)
  rfl
theorem coolsV_eq {kind : Int32} (h : ∃ d : Nat, d < 7 ∧ kind = nI d) : (if kind = 2 then 2 else if kind = 3 then 2 else if kind = 4 then 2 else if kind = 5 then 5 else if kind = 6 then 2 else (1 : Int32)) = coolsV kind := by
  obtain ⟨d, hd, rfl⟩ := h
  have h9 : ∀ d, d < 7 → (if nI d = 2 then 2 else if nI d = 3 then 2 else if nI d = 4 then 2 else if nI d = 5 then 5 else if nI d = 6 then 2 else (1 : Int32)) = coolsV (nI d) := by decide
  exact h9 d hd
theorem x_grows {μ : Mem} {k : Rtn} {X : Option Rz} {i : Nat} (hb : Nat.beq (kd i) 1 = true) (hk : k (some (.int (growsV (μ i 0)))) μ = X) : S_X1_grows [.ref i] μ k = X := by
  rw [← hk]
  refine unl (bfT rfl ?_)
  refine (@bfT _ _ _ _ _ (hb)) ?_
  repeat' (first | refine brk (fun h => ?_) (fun h => ?_) | refine brF c10 ?_ | refine brT c00 ?_)
  all_goals rfl
theorem x_learns {μ : Mem} {k : Rtn} {X : Option Rz} {i : Nat} (hb : Nat.beq (kd i) 1 = true) (hk : k (some (.int (learnsV (μ i 0)))) μ = X) : S_X1_learns [.ref i] μ k = X := by
  rw [← hk]
  refine unl (bfT rfl ?_)
  refine (@bfT _ _ _ _ _ (hb)) ?_
  repeat' (first | refine brk (fun h => ?_) (fun h => ?_) | refine brF c10 ?_ | refine brT c00 ?_)
  all_goals rfl
theorem x_cools {μ : Mem} {k : Rtn} {X : Option Rz} {i : Nat} (hb : Nat.beq (kd i) 1 = true) (h6 : ∃ d : Nat, d < 7 ∧ μ i 0 = nI d) (hk : k (some (.int (coolsV (μ i 0)))) μ = X) : S_X1_cools [.ref i] μ k = X := by
  rw [← hk, ← coolsV_eq h6]
  refine unl (bfT rfl ?_)
  refine (@bfT _ _ _ _ _ (hb)) ?_
  repeat' (first | refine brk (fun h => ?_) (fun h => ?_) | refine brF c10 ?_ | refine brT c00 ?_)
  all_goals rfl
theorem x_jolts {μ : Mem} {k : Rtn} {X : Option Rz} {i : Nat} {d : Int32} (hb : Nat.beq (kd i) 1 = true) (hk : k (some (.int (joltsV (μ i 0) (μ i 2) d))) μ = X) : S_X1_jolts [.ref i, .int d] μ k = X := by
  rw [← hk]
  refine unl (bfT rfl ?_)
  refine (@bfT _ _ _ _ _ (hb)) ?_
  refine brk (fun h => ?_) (fun h => ?_)
  · refine (@bfT _ _ _ _ _ (hb)) ?_
    rfl
  refine brk (fun h => rfl) (fun h => ?_)
  refine brk (fun h => rfl) (fun h => ?_)
  refine brk (fun h => rfl) (fun h => ?_)
  refine brk (fun h => ?_) (fun h => ?_)
  · refine (@bfT _ _ _ _ _ (hb)) ?_
    rfl
  refine brk (fun h => ?_) (fun h => ?_)
  · refine (@bfT _ _ _ _ _ (hb)) ?_
    rfl
  refine (@bfT _ _ _ _ _ (hb)) ?_
  rfl
set_option maxRecDepth 100000 in
theorem x_presses {μ : Mem} {k : Rtn} {X : Option Rz} {i : Nat} {s : Int32} (hb : Nat.beq (kd i) 1 = true) (hk : k (some (.int (pressesV (μ i 0) (μ i 1) (μ i 2) s))) μ = X) : S_X1_presses [.ref i, .int s] μ k = X := by
  rw [← hk]
  refine unl (bfT rfl ?_)
  refine (@bfT _ _ _ _ _ (hb)) ?_
  refine brk (fun h => ?_) (fun h => ?_)
  · refine (@bfT _ _ _ _ _ (hb)) ?_
    refine (@bfT _ _ _ _ _ (hb)) ?_
    rfl
  refine brk (fun h => ?_) (fun h => ?_)
  · refine (@bfT _ _ _ _ _ (hb)) ?_
    rfl
  refine brk (fun h => ?_) (fun h => ?_)
  · refine (@bfT _ _ _ _ _ (hb)) ?_
    refine x_pap hb ?_
    rfl
  refine brk (fun h => ?_) (fun h => ?_)
  · refine (@bfT _ _ _ _ _ (hb)) ?_
    refine x_pap hb ?_
    rfl
  refine brk (fun h => ?_) (fun h => ?_)
  · refine (@bfT _ _ _ _ _ (hb)) ?_
    rfl
  refine brk (fun h => ?_) (fun h => ?_)
  · refine (@bfT _ _ _ _ _ (hb)) ?_
    refine (@bfT _ _ _ _ _ (hb)) ?_
    rfl
  refine (@bfT _ _ _ _ _ (hb)) ?_
  rfl
def fwX (m : Nat → Int32) : Nat → Int32 := upf (upf (upf m 3 (minI (m 3 + 1) 9999)) 2 (minI (m 2 + growsV (m 0)) 99)) 1 (minI (m 1 + learnsV (m 0)) 99)
def frX (m : Nat → Int32) : Nat → Int32 := upf m 4 (minI (m 4 + 1) 9999)
def cdX (m : Nat → Int32) : Nat → Int32 := upf m 2 (maxI (m 2 - coolsV (m 0)) 0)
theorem beq_kd {i c : Nat} (h : kd i = c) : Nat.beq (kd i) c = true := by rw [h]; exact beqT c
set_option maxRecDepth 100000 in
theorem x_fr {μ : Mem} {k : Rtn} {X : Option Rz} {i : Nat} (hb : Nat.beq (kd i) 1 = true) (hk : ∀ μ', μ' = up1 μ i (frX (μ i)) → k none μ' = X) : S_X1_isFoundRight [.ref i] μ k = X := by
  refine unl (bfT rfl ?_)
  refine (@bfT _ _ _ _ _ (hb)) ?_
  refine (@bfT _ _ _ _ _ (hb)) ?_
  exact hk _ rfl
set_option maxRecDepth 100000 in
theorem x_cd {μ : Mem} {k : Rtn} {X : Option Rz} {i : Nat} (hb : Nat.beq (kd i) 1 = true) (h6 : ∃ d : Nat, d < 7 ∧ μ i 0 = nI d) (hk : ∀ μ', μ' = up1 μ i (cdX (μ i)) → k none μ' = X) : S_X1_coolDown [.ref i] μ k = X := by
  refine unl (bfT rfl ?_)
  refine (@bfT _ _ _ _ _ (hb)) ?_
  refine (@bfT _ _ _ _ _ (hb)) ?_
  refine x_cools hb h6 ?_
  refine (@bfT _ _ _ _ _ (hb)) ?_
  exact hk _ rfl
theorem up2_get (μ : Mem) (i j : Nat) (v : Int32) : (up2 μ i j v) i = upf (μ i) j v := up1_at μ i _
theorem up2_up2 (μ : Mem) (i j j2 : Nat) (v v2 : Int32) : up2 (up2 μ i j v) i j2 v2 = up1 μ i (upf (upf (μ i) j v) j2 v2) := by
  unfold up2
  rw [up1_at, up1_same]
set_option maxRecDepth 100000 in
theorem x_fw {μ : Mem} {k : Rtn} {X : Option Rz} {i : Nat} (hb : Nat.beq (kd i) 1 = true) (hk : ∀ μ', μ' = up1 μ i (fwX (μ i)) → k none μ' = X) : S_X1_isFoundWrong [.ref i] μ k = X := by
  refine unl (bfT rfl ?_)
  refine (@bfT _ _ _ _ _ (hb)) ?_
  refine (@bfT _ _ _ _ _ (hb)) ?_
  refine (@bfT _ _ _ _ _ (hb)) ?_
  refine (@bfT _ _ _ _ _ (hb)) ?_
  refine x_grows hb ?_
  refine (@bfT _ _ _ _ _ (hb)) ?_
  refine (@bfT _ _ _ _ _ (hb)) ?_
  refine (@bfT _ _ _ _ _ (hb)) ?_
  refine x_learns hb ?_
  refine (@bfT _ _ _ _ _ (hb)) ?_
  refine hk _ ?_
  simp only [up2, up1_at, up1_same]
  rfl
