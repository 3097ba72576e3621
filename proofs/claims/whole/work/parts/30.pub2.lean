/-! of, change, turning, falls -/
def tellsX (m : Nat → Int32) (w s d : Int32) : Int32 := if w = 0 then m 0 else if w = 1 then m 1 else if w = 2 then m 2 else if w = 3 then m 3 else if w = 4 then m 4 else if w = 5 then m 5 else if w = 6 then pressesV (m 0) (m 1) (m 2) s else if w = 7 then joltsV (m 0) (m 2) d else if w = 8 then growsV (m 0) else if w = 9 then learnsV (m 0) else coolsV (m 0)
set_option maxRecDepth 100000 in
theorem x_tells {μ : Mem} {k : Rtn} {X : Option Rz} {i : Nat} {w s d : Int32} (hb : Nat.beq (kd i) 1 = true) (h6 : ∃ d : Nat, d < 7 ∧ μ i 0 = nI d) (hk : k (some (.int (tellsX (μ i) w s d))) μ = X) : S_X1_tells [.ref i, .int w, .int s, .int d] μ k = X := by
  rw [← hk]
  refine unl (bfT rfl ?_)
  refine brk (fun h => ?_) (fun h => ?_)
  · refine (@bfT _ _ _ _ _ (hb)) ?_
    rfl
  refine brk (fun h => ?_) (fun h => ?_)
  · refine (@bfT _ _ _ _ _ (hb)) ?_
    rfl
  refine brk (fun h => ?_) (fun h => ?_)
  · refine (@bfT _ _ _ _ _ (hb)) ?_
    rfl
  refine brk (fun h => ?_) (fun h => ?_)
  · refine (@bfT _ _ _ _ _ (hb)) ?_
    rfl
  refine brk (fun h => ?_) (fun h => ?_)
  · refine (@bfT _ _ _ _ _ (hb)) ?_
    rfl
  refine brk (fun h => ?_) (fun h => ?_)
  · refine (@bfT _ _ _ _ _ (hb)) ?_
    rfl
  refine brk (fun h => ?_) (fun h => ?_)
  · refine (@bfT _ _ _ _ _ (hb)) ?_
    exact x_presses hb rfl
  refine brk (fun h => ?_) (fun h => ?_)
  · refine (@bfT _ _ _ _ _ (hb)) ?_
    exact x_jolts hb rfl
  refine brk (fun h => ?_) (fun h => ?_)
  · refine (@bfT _ _ _ _ _ (hb)) ?_
    exact x_grows hb rfl
  refine brk (fun h => ?_) (fun h => ?_)
  · refine (@bfT _ _ _ _ _ (hb)) ?_
    exact x_learns hb rfl
  refine (@bfT _ _ _ _ _ (hb)) ?_
  exact x_cools hb h6 rfl
def toldR (r : Nat → Int32) (x w : Int32) : Int32 := if w = 6 then pressesR r x else if w = 7 then joltsR r x else if w = 8 then growsV (rD r x 0) else if w = 9 then learnsV (rD r x 0) else if w = 10 then coolsV (rD r x 0) else rD r x w
set_option maxRecDepth 100000 in
theorem e_told {μ : Mem} {k : Rtn} {X : Option Rz} {x w : Int32} (hx : dI x) (hw : VB w 10) (hk : k (some (.int (toldR (μ 50) x w))) μ = X) : S_X5_told [.ref 49, .int x, .int w] μ k = X := by
  rw [← hk]
  refine unl (bfT rfl ?_)
  refine brk (fun h => ?_) (fun h6 => ?_)
  · exact e_presses hx rfl
  refine brk (fun h => ?_) (fun h7 => ?_)
  · exact e_jolts hx rfl
  refine brk (fun h => ?_) (fun h8 => ?_)
  · exact e_grows hx rfl
  refine brk (fun h => ?_) (fun h9 => ?_)
  · exact e_learns hx rfl
  refine brk (fun h => ?_) (fun h10 => ?_)
  · exact e_cools hx rfl
  refine e_dIs hx ?_ rfl
  obtain ⟨j, hj, rfl⟩ := hw
  refine ⟨j, ?_, rfl⟩
  rcases Nat.lt_or_ge j 6 with q | q
  · exact q
  · exfalso
    rcases (by omega : j = 6 ∨ j = 7 ∨ j = 8 ∨ j = 9 ∨ j = 10) with rfl | rfl | rfl | rfl | rfl
    · exact h6 rfl
    · exact h7 rfl
    · exact h8 rfl
    · exact h9 rfl
    · exact h10 rfl
theorem tells_eq {μ : Mem} {c : Nat} {r : Nat → Int32} (hR : Rep μ c r) (hG : G1 r) {x w : Int32} (hx : hasR r x) (hw : VB w 10) : tellsX (μ (aq c x)) w (μ c 1) (μ c 3) = toldR r x w := by
  have a0 := rep_at hR hG hx (by decide : 0 < 6)
  have a1 := rep_at hR hG hx (by decide : 1 < 6)
  have a2 := rep_at hR hG hx (by decide : 2 < 6)
  have a3 := rep_at hR hG hx (by decide : 3 < 6)
  have a4 := rep_at hR hG hx (by decide : 4 < 6)
  have a5 := rep_at hR hG hx (by decide : 5 < 6)
  obtain ⟨j, hj, rfl⟩ := hw
  unfold tellsX toldR pressesR joltsR
  rw [a0, a1, a2, a3, a4, a5, hR.1.2.2.2.2.1, hR.1.1]
  rcases (by omega : j = 0 ∨ j = 1 ∨ j = 2 ∨ j = 3 ∨ j = 4 ∨ j = 5 ∨ j = 6 ∨ j = 7 ∨ j = 8 ∨ j = 9 ∨ j = 10) with rfl | rfl | rfl | rfl | rfl | rfl | rfl | rfl | rfl | rfl | rfl <;> rfl
theorem hasR.kd {μ : Mem} {c : Nat} {r : Nat → Int32} (hR : Rep μ c r) (hG : G1 r) {x : Int32} (hx : hasR r x) : ∃ d : Nat, d < 7 ∧ μ (aq c x) 0 = nI d := by
  rw [rep_at hR hG hx (by decide : 0 < 6)]
  obtain ⟨d, hd, rfl⟩ := hx
  have h8 := hG.n8
  rw [rD_n r (by omega) (by decide)]
  obtain ⟨e, he, q⟩ := (hG.2.2 d hd).1
  exact ⟨e, by omega, q⟩
set_option maxRecDepth 100000 in
theorem T_of {μ : Mem} {k1 : Rtn} {K : Int32 → Rtn} {X : Option Rz} (hI : Inv μ) {d w : Int32} (hm : ∀ v μ1, k1 (some (.int v)) μ1 = S_X5_of [.ref 49, .int d, .int w] μ1 (K v)) (hK : ∀ v w μ2, v = w → Inv μ2 → K v (some (.int w)) μ2 = X) : S_X4_of [.ref 0, .int d, .int w] μ k1 = X := by
  rcases has_cases hI d with ⟨hd, g1, g2, g3⟩ | g1 | ⟨g1, g2, g3⟩
  · refine unl (bfT rfl ?_)
    repeat' (first | refine brT (by assumption) ?_ | refine brF (by assumption) ?_ | refine br (fun q => ?_) (fun q => ?_))
    all_goals (try (refine x_tell0 ?_; refine (hm _ _).trans ?_; refine unl (bfT rfl ?_); (repeat' (first | refine brF c10 ?_ | refine brT c00 ?_ | refine brF c01 ?_ | refine brT c11 ?_ | refine brT (by assumption) ?_ | refine brF (by assumption) ?_)); refine e_find0 ?_; exact hK _ _ _ rfl (Inv_tell hI (by decide))))
    have hx := hd.dI hI.1.2
    have hw : VB w 10 := nlt_VB (by decide) (by assumption) (by assumption)
    refine (@bfT _ _ _ _ _ (in8 hx)) ?_
    refine (@bfT _ _ _ _ _ (kdq_1 hx)) ?_
    refine x_tells (kdq_1 hx) (hasR.kd hI.1.1 hI.1.2 hd) ?_
    refine (hm _ _).trans ?_
    refine unl (bfT rfl ?_)
    repeat' (first | refine brF c10 ?_ | refine brT c00 ?_ | refine brF c01 ?_ | refine brT c11 ?_ | refine brT (by assumption) ?_ | refine brF (by assumption) ?_)
    refine e_told hx hw ?_
    exact hK _ _ _ (tells_eq hI.1.1 hI.1.2 hd hw) hI
  · refine unl (bfT rfl ?_)
    repeat' (first | refine brT (by assumption) ?_ | refine brF (by assumption) ?_ | refine br (fun q => ?_) (fun q => ?_))
    refine x_tell0 ?_; refine (hm _ _).trans ?_; refine unl (bfT rfl ?_); (repeat' (first | refine brF c10 ?_ | refine brT c00 ?_ | refine brF c01 ?_ | refine brT c11 ?_ | refine brT (by assumption) ?_ | refine brF (by assumption) ?_)); refine e_find0 ?_; exact hK _ _ _ rfl (Inv_tell hI (by decide))
  · refine unl (bfT rfl ?_)
    repeat' (first | refine brT (by assumption) ?_ | refine brF (by assumption) ?_ | refine br (fun q => ?_) (fun q => ?_))
    refine x_tell0 ?_; refine (hm _ _).trans ?_; refine unl (bfT rfl ?_); (repeat' (first | refine brF c10 ?_ | refine brT c00 ?_ | refine brF c01 ?_ | refine brT c11 ?_ | refine brT (by assumption) ?_ | refine brF (by assumption) ?_)); refine e_find0 ?_; exact hK _ _ _ rfl (Inv_tell hI (by decide))
set_option maxRecDepth 100000 in
theorem T_turning {μ : Mem} {k1 : Rtn} {K : Int32 → Rtn} {X : Option Rz} (hI : Inv μ) {a b : Int32} (hm : ∀ v μ1, k1 (some (.int v)) μ1 = S_X5_turning [.ref 49, .int a, .int b] μ1 (K v)) (hK : ∀ v w μ2, v = w → Inv μ2 → K v (some (.int w)) μ2 = X) : S_X4_turning [.ref 0, .int a, .int b] μ k1 = X := by
  rcases has_cases hI a with ⟨ha, g1, g2, g3⟩ | g1 | ⟨g1, g2, g3⟩
  · rcases has_cases hI b with ⟨hb, q1, q2, q3⟩ | q1 | ⟨q1, q2, q3⟩
    · by_cases hab : a = b
      · refine unl (bfT rfl ?_)
        repeat' (first | refine brT (by assumption) ?_ | refine brF (by assumption) ?_ | refine br (fun q => ?_) (fun q => ?_))
        refine x_tell0 ?_; refine (hm _ _).trans ?_; refine unl (bfT rfl ?_); (repeat' (first | refine brF c10 ?_ | refine brT c00 ?_ | refine brF c01 ?_ | refine brT c11 ?_ | refine brT (by assumption) ?_ | refine brF (by assumption) ?_)); refine e_find0 ?_; exact hK _ _ _ rfl (Inv_tell hI (by decide))
      · refine unl (bfT rfl ?_)
        repeat' (first | refine brT (by assumption) ?_ | refine brF (by assumption) ?_ | refine br (fun q => ?_) (fun q => ?_))
        have hx := ha.dI hI.1.2
        have hy := hb.dI hI.1.2
        refine x_turns_1 hx hy ?_
        refine (hm _ _).trans ?_
        refine unl (bfT rfl ?_)
        repeat' (first | refine brF c10 ?_ | refine brT c00 ?_ | refine brF c01 ?_ | refine brT c11 ?_ | refine brT (by assumption) ?_ | refine brF (by assumption) ?_)
        refine e_turnsOf hx hy ?_
        refine hK _ _ _ ?_ hI
        rw [turnsX_eq hI.1.1 hI.1.2 ha hb]
        have e : μ 1 0 = μ 50 3 := hI.1.1.1.2.2.2.1
        show turnsH (μ 1 0) (μ 50) a b = _
        rw [e]
        rfl
    · refine unl (bfT rfl ?_)
      repeat' (first | refine brT (by assumption) ?_ | refine brF (by assumption) ?_ | refine br (fun q => ?_) (fun q => ?_))
      refine x_tell0 ?_; refine (hm _ _).trans ?_; refine unl (bfT rfl ?_); (repeat' (first | refine brF c10 ?_ | refine brT c00 ?_ | refine brF c01 ?_ | refine brT c11 ?_ | refine brT (by assumption) ?_ | refine brF (by assumption) ?_)); refine e_find0 ?_; exact hK _ _ _ rfl (Inv_tell hI (by decide))
    · refine unl (bfT rfl ?_)
      repeat' (first | refine brT (by assumption) ?_ | refine brF (by assumption) ?_ | refine br (fun q => ?_) (fun q => ?_))
      refine x_tell0 ?_; refine (hm _ _).trans ?_; refine unl (bfT rfl ?_); (repeat' (first | refine brF c10 ?_ | refine brT c00 ?_ | refine brF c01 ?_ | refine brT c11 ?_ | refine brT (by assumption) ?_ | refine brF (by assumption) ?_)); refine e_find0 ?_; exact hK _ _ _ rfl (Inv_tell hI (by decide))
  · refine unl (bfT rfl ?_)
    repeat' (first | refine brT (by assumption) ?_ | refine brF (by assumption) ?_ | refine br (fun q => ?_) (fun q => ?_))
    refine x_tell0 ?_; refine (hm _ _).trans ?_; refine unl (bfT rfl ?_); (repeat' (first | refine brF c10 ?_ | refine brT c00 ?_ | refine brF c01 ?_ | refine brT c11 ?_ | refine brT (by assumption) ?_ | refine brF (by assumption) ?_)); refine e_find0 ?_; exact hK _ _ _ rfl (Inv_tell hI (by decide))
  · refine unl (bfT rfl ?_)
    repeat' (first | refine brT (by assumption) ?_ | refine brF (by assumption) ?_ | refine br (fun q => ?_) (fun q => ?_))
    refine x_tell0 ?_; refine (hm _ _).trans ?_; refine unl (bfT rfl ?_); (repeat' (first | refine brF c10 ?_ | refine brT c00 ?_ | refine brF c01 ?_ | refine brT c11 ?_ | refine brT (by assumption) ?_ | refine brF (by assumption) ?_)); refine e_find0 ?_; exact hK _ _ _ rfl (Inv_tell hI (by decide))
