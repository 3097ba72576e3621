/-! a court of the class holds a row -/
def Rep (μ : Mem) (c : Nat) (r : Nat → Int32) : Prop :=
  (μ c 3 = r 0 ∧ μ c 7 = r 1 ∧ μ c 4 = r 2 ∧ μ c 0 = r 3 ∧ μ c 1 = r 4 ∧ μ c 2 = r 5) ∧ (∀ j, j < 6 → μ (3 + c) j = r (6 + j)) ∧ (∀ j, j < 10 → μ (6 + c) j = r (12 + j)) ∧ (∀ d, d < (r 1).toNatClampNeg → ∀ f, f < 6 → μ (5 + 8 * c + d) f = r (22 + 6 * d + f))
/-- the cells of a court -/
def inC (c i : Nat) : Prop := i = c ∨ i = 3 + c ∨ i = 6 + c ∨ (5 + 8 * c ≤ i ∧ i < 13 + 8 * c)
def Fr (c : Nat) (μ μ' : Mem) : Prop := ∀ i, ¬ inC c i → μ' i = μ i
theorem Fr.rf {c : Nat} {μ : Mem} : Fr c μ μ := fun _ _ => rfl
theorem Fr.tr {c : Nat} {μ μ1 μ2 : Mem} (h1 : Fr c μ μ1) (h2 : Fr c μ1 μ2) : Fr c μ μ2 := fun i h => (h2 i h).trans (h1 i h)
theorem Fr.up {c i : Nat} {μ : Mem} {a : Nat → Int32} (h : inC c i) : Fr c μ (up1 μ i a) := fun j hj => up1_ne _ _ (fun e => hj (by rw [e]; exact h))
theorem up2_ne (μ : Mem) {i j g : Nat} (v : Int32) (h : ¬ j = i) : up2 μ i g v j = μ j := up1_ne _ _ h
theorem up2_at (μ : Mem) (i g : Nat) (v : Int32) : up2 μ i g v i = upf (μ i) g v := up1_at _ _ _
theorem rep_put {ν : Mem} {c d g : Nat} {R : Nat → Int32} {v : Int32} (hc : 1 ≤ c ∧ c ≤ 3) (h : Rep ν c R) (hd : d < (R 1).toNatClampNeg) (hg : g < 6) : Rep (up2 ν (5 + 8 * c + d) g v) c (upf R (22 + 6 * d + g) v) := by
  obtain ⟨⟨h1, h2, h3, h4, h5, h6⟩, h7, h8, h9⟩ := h
  unfold Rep
  rw [up2_ne ν v (by omega), upf_ne R v (show ¬ 0 = 22 + 6 * d + g by omega), upf_ne R v (show ¬ 1 = 22 + 6 * d + g by omega), upf_ne R v (show ¬ 2 = 22 + 6 * d + g by omega), upf_ne R v (show ¬ 3 = 22 + 6 * d + g by omega), upf_ne R v (show ¬ 4 = 22 + 6 * d + g by omega), upf_ne R v (show ¬ 5 = 22 + 6 * d + g by omega)]
  refine ⟨⟨h1, h2, h3, h4, h5, h6⟩, fun j hj => ?_, fun j hj => ?_, fun d2 hd2 f hf => ?_⟩
  · rw [up2_ne ν v (by omega), upf_ne R v (by omega)]; exact h7 j hj
  · rw [up2_ne ν v (by omega), upf_ne R v (by omega)]; exact h8 j hj
  · by_cases e : d2 = d
    · subst e
      rw [up2_at]
      by_cases ef : f = g
      · subst ef
        rw [upf_at, upf_at]
      · rw [upf_ne _ v ef, upf_ne R v (by omega)]
        exact h9 d2 hd2 f hf
    · rw [up2_ne ν v (by omega), upf_ne R v (by omega)]
      exact h9 d2 hd2 f hf
/-- the places of a court's own numbers in the row -/
def cR (k : Nat) : Nat := match k with | 0 => 3 | 1 => 4 | 2 => 5 | 3 => 0 | _ => 2
theorem rep_own {ν : Mem} {c k : Nat} {R : Nat → Int32} {v : Int32} (hc : 1 ≤ c ∧ c ≤ 3) (h : Rep ν c R) (hk : k < 5) : Rep (up2 ν c k v) c (upf R (cR k) v) := by
  obtain ⟨⟨h1, h2, h3, h4, h5, h6⟩, h7, h8, h9⟩ := h
  have hcr : cR k < 6 ∧ ¬ cR k = 1 := by
    rcases (by omega : k = 0 ∨ k = 1 ∨ k = 2 ∨ k = 3 ∨ k = 4) with rfl | rfl | rfl | rfl | rfl <;> decide
  refine ⟨?_, fun j hj => ?_, fun j hj => ?_, fun d2 hd2 f hf => ?_⟩
  · rw [up2_at]
    rcases (by omega : k = 0 ∨ k = 1 ∨ k = 2 ∨ k = 3 ∨ k = 4) with rfl | rfl | rfl | rfl | rfl
    · exact ⟨h1, h2, h3, rfl, h5, h6⟩
    · exact ⟨h1, h2, h3, h4, rfl, h6⟩
    · exact ⟨h1, h2, h3, h4, h5, rfl⟩
    · exact ⟨rfl, h2, h3, h4, h5, h6⟩
    · exact ⟨h1, h2, rfl, h4, h5, h6⟩
  · rw [up2_ne ν v (by omega), upf_ne R v (by omega)]; exact h7 j hj
  · rw [up2_ne ν v (by omega), upf_ne R v (by omega)]; exact h8 j hj
  · rw [upf_ne R v (by omega)] at hd2
    rw [up2_ne ν v (by omega), upf_ne R v (by omega)]; exact h9 d2 hd2 f hf
theorem rep_list {ν : Mem} {c k : Nat} {R : Nat → Int32} {v : Int32} (hc : 1 ≤ c ∧ c ≤ 3) (h : Rep ν c R) (hk : k < 6) : Rep (up2 ν (3 + c) k v) c (upf R (6 + k) v) := by
  obtain ⟨⟨h1, h2, h3, h4, h5, h6⟩, h7, h8, h9⟩ := h
  unfold Rep
  rw [up2_ne ν v (by omega), upf_ne R v (show ¬ 0 = 6 + k by omega), upf_ne R v (show ¬ 1 = 6 + k by omega), upf_ne R v (show ¬ 2 = 6 + k by omega), upf_ne R v (show ¬ 3 = 6 + k by omega), upf_ne R v (show ¬ 4 = 6 + k by omega), upf_ne R v (show ¬ 5 = 6 + k by omega)]
  refine ⟨⟨h1, h2, h3, h4, h5, h6⟩, fun j hj => ?_, fun j hj => ?_, fun d2 hd2 f hf => ?_⟩
  · rw [up2_at]
    by_cases e : j = k
    · subst e; rw [upf_at, upf_at]
    · rw [upf_ne _ v e, upf_ne R v (by omega)]; exact h7 j hj
  · rw [up2_ne ν v (by omega), upf_ne R v (by omega)]; exact h8 j hj
  · rw [up2_ne ν v (by omega), upf_ne R v (by omega)]; exact h9 d2 hd2 f hf
theorem rep_spot {ν : Mem} {c k : Nat} {R : Nat → Int32} {v : Int32} (hc : 1 ≤ c ∧ c ≤ 3) (h : Rep ν c R) (hk : k < 10) : Rep (up2 ν (6 + c) k v) c (upf R (12 + k) v) := by
  obtain ⟨⟨h1, h2, h3, h4, h5, h6⟩, h7, h8, h9⟩ := h
  unfold Rep
  rw [up2_ne ν v (by omega), upf_ne R v (show ¬ 0 = 12 + k by omega), upf_ne R v (show ¬ 1 = 12 + k by omega), upf_ne R v (show ¬ 2 = 12 + k by omega), upf_ne R v (show ¬ 3 = 12 + k by omega), upf_ne R v (show ¬ 4 = 12 + k by omega), upf_ne R v (show ¬ 5 = 12 + k by omega)]
  refine ⟨⟨h1, h2, h3, h4, h5, h6⟩, fun j hj => ?_, fun j hj => ?_, fun d2 hd2 f hf => ?_⟩
  · rw [up2_ne ν v (by omega), upf_ne R v (by omega)]; exact h7 j hj
  · rw [up2_at]
    by_cases e : j = k
    · subst e; rw [upf_at, upf_at]
    · rw [upf_ne _ v e, upf_ne R v (by omega)]; exact h8 j hj
  · rw [up2_ne ν v (by omega), upf_ne R v (by omega)]; exact h9 d2 hd2 f hf
/-- bounds of a row -/
def VB (x : Int32) (n : Nat) : Prop := ∃ m : Nat, m ≤ n ∧ x = nI m
def G1 (r : Nat → Int32) : Prop := (VB (r 0) 99999 ∧ VB (r 1) 8 ∧ VB (r 4) 9 ∧ VB (r 5) 9999) ∧ (∀ j, j < 10 → r (12 + j) = -1 ∨ ∃ d, d < (r 1).toNatClampNeg ∧ r (12 + j) = nI d) ∧ ∀ d, d < (r 1).toNatClampNeg → VB (r (22 + 6 * d)) 6 ∧ VB (r (22 + 6 * d + 1)) 99 ∧ VB (r (22 + 6 * d + 2)) 99 ∧ VB (r (22 + 6 * d + 3)) 9999 ∧ VB (r (22 + 6 * d + 5)) 1
theorem G1.g0 {r : Nat → Int32} (h : G1 r) : G0 r := ⟨h.1.1, h.1.2.1⟩
theorem G1.n8 {r : Nat → Int32} (h : G1 r) : (r 1).toNatClampNeg ≤ 8 := by
  obtain ⟨m, hm, e⟩ := h.1.2.1
  rw [e, nI_cl (by omega)]
  exact hm
theorem G1.n1 {r : Nat → Int32} (h : G1 r) : r 1 = nI (r 1).toNatClampNeg := by
  obtain ⟨m, hm, e⟩ := h.1.2.1
  rw [e, nI_cl (by omega)]
