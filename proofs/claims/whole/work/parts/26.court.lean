/-! courts of the class, by their runs -/
theorem in8 {x : Int32} (h : dI x) : inB x 8 = true := by
  obtain ⟨d, hd, rfl⟩ := h
  exact inB_nI hd (by decide)
theorem kdq_1 {x : Int32} (h : dI x) : Nat.beq (kd (13 + x.toNatClampNeg)) 1 = true := by
  obtain ⟨d, hd, rfl⟩ := h
  rw [nI_cl (by omega)]
  have h9 : ∀ d, d < 8 → Nat.beq (kd (13 + d)) 1 = true := by decide
  exact h9 d hd
set_option maxRecDepth 100000 in
theorem x_turns_1 {μ : Mem} {k : Rtn} {X : Option Rz} {h a b : Int32} (ha : dI a) (hb : dI b) (hk : k (some (.int (turnsX μ 1 h a b))) μ = X) : S_X0_turns [.ref 1, .int h, .int a, .int b] μ k = X := by
  refine unl (bfT rfl ?_)
  refine (@bfT _ _ _ _ _ (in8 ha)) ?_
  refine (@bfT _ _ _ _ _ (kdq_1 ha)) ?_
  refine x_jolts (kdq_1 ha) ?_
  refine (@bfT _ _ _ _ _ (in8 hb)) ?_
  refine (@bfT _ _ _ _ _ (kdq_1 hb)) ?_
  refine x_jolts (kdq_1 hb) ?_
  exact hk
set_option maxRecDepth 100000 in
theorem x_loser_1 {μ : Mem} {k : Rtn} {X : Option Rz} {h a b : Int32} (ha : dI a) (hb : dI b) (hk : k (some (.int (loserX μ 1 h a b))) μ = X) : S_X0_loser [.ref 1, .int h, .int a, .int b] μ k = X := by
  rw [← hk]
  refine unl (bfT rfl ?_)
  refine x_turns_1 ha hb ?_
  refine brk (fun q => rfl) (fun q => ?_)
  refine (@bfT _ _ _ _ _ (in8 ha)) ?_
  refine (@bfT _ _ _ _ _ (kdq_1 ha)) ?_
  refine x_presses (kdq_1 ha) ?_
  refine (@bfT _ _ _ _ _ (in8 hb)) ?_
  refine (@bfT _ _ _ _ _ (kdq_1 hb)) ?_
  refine x_presses (kdq_1 hb) ?_
  refine brk (fun q => ?_) (fun q => ?_)
  · refine brk (fun q => ?_) (fun q => ?_)
    · repeat (first | refine brF c10 ?_ | refine brT c00 ?_)
      rfl
    · repeat (first | refine brF c10 ?_ | refine brT c00 ?_)
      rfl
  · refine brk (fun q => ?_) (fun q => ?_)
    · repeat (first | refine brF c10 ?_ | refine brT c00 ?_)
      rfl
    · repeat (first | refine brF c10 ?_ | refine brT c00 ?_)
      rfl
set_option maxRecDepth 100000 in
theorem x_fo_1 {μ : Mem} {k : Rtn} {X : Option Rz} {r : Nat → Int32} (hR : Rep μ 1 r) (hG : G1 r) (hk : k (some (.int (foI r))) μ = X) : S_X0_fallsOut [.ref 1] μ k = X := by
  rw [← hk, ← foX_eq hR hG]
  have hi : inB (μ 1 3 % 6) 6 = true := LX_in hR hG
  have hd : ∀ x : Int32, ¬ x < 0 → x < μ 1 7 → dI x := fun x q1 q2 => (hG.has q1 (by rw [← hR.1.2.1]; exact q2)).dI hG
  refine unl (bfT rfl ?_)
  refine (@bfT _ _ _ _ _ (hi)) ?_
  refine (@bfT _ _ _ _ _ (hi)) ?_
  refine brk (fun q => rfl) (fun q1 => ?_)
  refine brk (fun q2 => ?_) (fun q => ?_)
  rotate_left
  · rfl
  refine brk (fun q => rfl) (fun q3 => ?_)
  refine brk (fun q4 => ?_) (fun q => ?_)
  rotate_left
  · rfl
  refine brk (fun q => rfl) (fun q5 => ?_)
  repeat (first | refine brF c10 ?_ | refine brT c00 ?_)
  refine (@bfT _ _ _ _ _ (in8 (hd _ q1 q2))) ?_
  refine (@bfT _ _ _ _ _ (kdq_1 (hd _ q1 q2))) ?_
  refine brk (fun q => rfl) (fun q6 => ?_)
  refine (@bfT _ _ _ _ _ (in8 (hd _ q3 q4))) ?_
  refine (@bfT _ _ _ _ _ (kdq_1 (hd _ q3 q4))) ?_
  refine brk (fun q => rfl) (fun q7 => ?_)
  rfl
theorem loserX_dI_1 {μ : Mem} {h a b : Int32} (ha : dI a) (hb : dI b) (h0 : ¬ loserX μ 1 h a b = -1) : dI (loserX μ 1 h a b) := by
  unfold loserX at h0 ⊢
  split
  · rename_i q; rw [if_pos q] at h0; exact absurd rfl h0
  · split
    · split
      · exact ha
      · exact hb
    · split
      · exact hb
      · exact ha
set_option maxRecDepth 100000 in
theorem x_lf_1 {μ : Mem} {k : Rtn} {X : Option Rz} {a b : Int32} (ha : dI a) (hb : dI b) (hk : ∀ μ', μ' = lfX μ 1 a b → k none μ' = X) : S_X0_letFall [.ref 1, .int a, .int b] μ k = X := by
  refine unl (bfT rfl ?_)
  refine x_loser_1 ha hb ?_
  refine br (fun q => ?_) (fun q => ?_)
  · refine hk _ ?_
    unfold lfX
    rw [if_pos q]
    rfl
  · have hw := loserX_dI_1 ha hb q
    refine (@bfT _ _ _ _ _ (in8 hw)) ?_
    refine (@bfT _ _ _ _ _ (kdq_1 hw)) ?_
    refine x_fw (kdq_1 hw) (fun μ1 e1 => ?_)
    refine br (fun q1 => ?_) (fun q1 => ?_)
    · refine (@bfT _ _ _ _ _ (in8 hb)) ?_
      refine (@bfT _ _ _ _ _ (kdq_1 hb)) ?_
      refine x_fr (kdq_1 hb) (fun μ2 e2 => ?_)
      refine hk _ ?_
      unfold lfX
      rw [e2, e1, if_neg q, if_pos q1]
      rfl
    · refine (@bfT _ _ _ _ _ (in8 ha)) ?_
      refine (@bfT _ _ _ _ _ (kdq_1 ha)) ?_
      refine x_fr (kdq_1 ha) (fun μ2 e2 => ?_)
      refine hk _ ?_
      unfold lfX
      rw [e2, e1, if_neg q, if_neg q1]
      rfl
set_option maxRecDepth 100000 in
theorem dropOnce_loop_1 {k : Rtn} {X : Option Rz} {μ : Mem} {r : Nat → Int32} (hG : G1 r) (hk : ∀ μ', Rep μ' 1 (upf (coolR (r 1).toNatClampNeg r) 0 (minI 99999 (coolR (r 1).toNatClampNeg r 0 + 1))) → Fr 1 μ μ' → k none μ' = X) :
    ∀ (m i f : Nat) (x : Int32) (ν : Mem), i + m = (r 1).toNatClampNeg → 40 * m + 40 ≤ f → x = nI i → Rep ν 1 (coolR i r) → Fr 1 μ ν → lockO (oILd 1 44) 0 (runK P_X0_dropOnce f k) k [some (.ref 1), some (.int x)] [] ν = X := by
  intro m
  have h8 := hG.n8
  induction m with
  | zero =>
    intro i f x ν hi hf hx hR hF
    subst hx
    obtain ⟨F, rfl⟩ : ∃ F, f = F + 40 := ⟨f - 40, by omega⟩
    have e : i = (r 1).toNatClampNeg := by omega
    have hn : ν 1 7 = r 1 := by rw [hR.1.2.1, (G1_cool hG i (by omega)).2]
    refine unO ?_
    have hc : ¬ nI i < ν 1 7 := by
      rw [hn, hG.n1, ← e]
      exact nI_nlt (Nat.le_refl _) (by omega)
    refine brF hc ?_
    refine hk _ ?_ (hF.tr (Fr.up (Or.inl rfl)))
    have h9 := rep_own (k := 3) (v := minI (ν 1 3 + 1) 99999) ⟨by decide, by decide⟩ hR (by decide)
    rw [hR.1.1, minI_comm, e] at h9
    have e3 : ν 1 3 = coolR (r 1).toNatClampNeg r 0 := by rw [hR.1.1, e]
    have e4 : minI (ν 1 3 + 1) 99999 = minI 99999 (coolR (r 1).toNatClampNeg r 0 + 1) := by rw [e3, minI_comm]
    show Rep (up2 ν 1 3 (minI (ν 1 3 + 1) 99999)) 1 _
    rw [e4]
    exact h9
  | succ m ih =>
    intro i f x ν hi hf hx hR hF
    subst hx
    obtain ⟨F, rfl⟩ : ∃ F, f = F + 40 := ⟨f - 40, by omega⟩
    have hi8 : i < 8 := by omega
    have hd : dI (nI i) := ⟨i, hi8, rfl⟩
    obtain ⟨gc, e1⟩ := G1_cool hG i (by omega)
    have hn : ν 1 7 = r 1 := by rw [hR.1.2.1, e1]
    refine unO ?_
    have hc : nI i < ν 1 7 := by
      rw [hn, hG.n1]
      exact nI_lt (by omega) (by omega)
    refine brT hc ?_
    have hin : i < (coolR i r 1).toNatClampNeg := by rw [e1]; omega
    have r9 := hR.2.2.2 i hin
    have hk0 : ∃ d : Nat, d < 7 ∧ ν (13 + (nI i).toNatClampNeg) 0 = nI d := by
      obtain ⟨d, hd, e⟩ := (gc.2.2 i hin).1
      refine ⟨d, by omega, ?_⟩
      rw [nI_cl (by omega)]
      exact (r9 0 (by decide)).trans e
    refine (@bfT _ _ _ _ _ (in8 hd)) ?_
    refine (@bfT _ _ _ _ _ (kdq_1 hd)) ?_
    refine x_cd (kdq_1 hd) hk0 (fun μ1 e2 => ?_)
    have e5 : (nI i).toNatClampNeg = i := nI_cl (by omega)
    rw [e5] at e2
    refine ih (i + 1) _ _ _ (by omega) (by omega) (nI_succ i).symm ?_ ?_
    · have h9 := rep_put (g := 2) (v := maxI (ν (13 + i) 2 - coolsV (ν (13 + i) 0)) 0) ⟨by decide, by decide⟩ hR hin (by decide)
      have e6 : ν (13 + i) 2 = coolR i r (22 + 6 * i + 2) := r9 2 (by decide)
      have e7 : ν (13 + i) 0 = coolR i r (22 + 6 * i) := r9 0 (by decide)
      rw [coolR_s hi8, e2]
      rw [e6, e7, maxI_comm] at h9
      have e8 : up1 ν (13 + i) (cdX (ν (13 + i))) = up2 ν (5 + 8 * 1 + i) 2 (maxI 0 (coolR i r (22 + 6 * i + 2) - coolsV (coolR i r (22 + 6 * i)))) := by
        show up1 ν (13 + i) (upf (ν (13 + i)) 2 (maxI (ν (13 + i) 2 - coolsV (ν (13 + i) 0)) 0)) = _
        rw [e6, e7, maxI_comm]
        rfl
      show Rep (up1 ν (13 + i) (cdX (ν (13 + i)))) 1 _
      rw [e8]
      exact h9
    · rw [e2]
      exact hF.tr (Fr.up (inC_d (c := 1) hi8))
set_option maxRecDepth 100000 in
theorem x_drop_1 {μ : Mem} {k : Rtn} {X : Option Rz} {r : Nat → Int32} (hR : Rep μ 1 r) (hG : G1 r) (hk : ∀ μ', Rep μ' 1 (dropR r) → Fr 1 μ μ' → k none μ' = X) : S_X0_dropOnce [.ref 1] μ k = X := by
  have h8 := hG.n8
  have hg := G1_drops1 hG
  have e1 := drops1_1 hG
  have hi : inB (μ 1 3 % 6) 6 = true := LX_in hR hG
  have hk2 : ∀ μ', Rep μ' 1 (upf (coolR (dropsR1 r 1).toNatClampNeg (dropsR1 r)) 0 (minI 99999 (coolR (dropsR1 r 1).toNatClampNeg (dropsR1 r) 0 + 1))) → Fr 1 μ μ' → k none μ' = X := by
    intro μ' g1 g2
    refine hk μ' ?_ g2
    rw [e1] at g1
    exact g1
  refine unl (bfT rfl ?_)
  refine x_fo_1 hR hG ?_
  refine br (fun q => ?_) (fun q => ?_)
  · obtain ⟨ha, hb, hab⟩ := fo_has hG q
    have eL : LX μ 1 = LR r := LX_eq hR hG
    refine (@bfT _ _ _ _ _ (hi)) ?_
    refine (@bfT _ _ _ _ _ (hi)) ?_
    have ha2 : dI (LX μ 1 / 10) := by rw [eL]; exact ha.dI hG
    have hb2 : dI (LX μ 1 % 10) := by rw [eL]; exact hb.dI hG
    refine x_lf_1 ha2 hb2 (fun μ1 em => ?_)
    obtain ⟨g1, g2⟩ := rep_lf (c := 1) ⟨by decide, by decide⟩ hR hG ha hb hab
    have em2 : μ1 = lfX μ 1 (LR r / 10) (LR r % 10) := by
      rw [em, ← eL]
      rfl
    refine dropOnce_loop_1 hg hk2 (dropsR1 r 1).toNatClampNeg 0 _ _ _ (by omega) (fu (by rw [e1]; omega) rfl) rfl ?_ ?_
    · unfold dropsR1
      rw [if_pos q, em2]
      exact g1
    · rw [em2]; exact g2
  · refine dropOnce_loop_1 hg hk2 (dropsR1 r 1).toNatClampNeg 0 _ _ _ (by omega) (fu (by rw [e1]; omega) rfl) rfl ?_ Fr.rf
    unfold dropsR1
    rw [if_neg q]
    exact hR
theorem kdq_2 {x : Int32} (h : dI x) : Nat.beq (kd (21 + x.toNatClampNeg)) 1 = true := by
  obtain ⟨d, hd, rfl⟩ := h
  rw [nI_cl (by omega)]
  have h9 : ∀ d, d < 8 → Nat.beq (kd (21 + d)) 1 = true := by decide
  exact h9 d hd
set_option maxRecDepth 100000 in
theorem x_turns_2 {μ : Mem} {k : Rtn} {X : Option Rz} {h a b : Int32} (ha : dI a) (hb : dI b) (hk : k (some (.int (turnsX μ 2 h a b))) μ = X) : S_X0_turns [.ref 2, .int h, .int a, .int b] μ k = X := by
  refine unl (bfT rfl ?_)
  refine (@bfT _ _ _ _ _ (in8 ha)) ?_
  refine (@bfT _ _ _ _ _ (kdq_2 ha)) ?_
  refine x_jolts (kdq_2 ha) ?_
  refine (@bfT _ _ _ _ _ (in8 hb)) ?_
  refine (@bfT _ _ _ _ _ (kdq_2 hb)) ?_
  refine x_jolts (kdq_2 hb) ?_
  exact hk
set_option maxRecDepth 100000 in
theorem x_loser_2 {μ : Mem} {k : Rtn} {X : Option Rz} {h a b : Int32} (ha : dI a) (hb : dI b) (hk : k (some (.int (loserX μ 2 h a b))) μ = X) : S_X0_loser [.ref 2, .int h, .int a, .int b] μ k = X := by
  rw [← hk]
  refine unl (bfT rfl ?_)
  refine x_turns_2 ha hb ?_
  refine brk (fun q => rfl) (fun q => ?_)
  refine (@bfT _ _ _ _ _ (in8 ha)) ?_
  refine (@bfT _ _ _ _ _ (kdq_2 ha)) ?_
  refine x_presses (kdq_2 ha) ?_
  refine (@bfT _ _ _ _ _ (in8 hb)) ?_
  refine (@bfT _ _ _ _ _ (kdq_2 hb)) ?_
  refine x_presses (kdq_2 hb) ?_
  refine brk (fun q => ?_) (fun q => ?_)
  · refine brk (fun q => ?_) (fun q => ?_)
    · repeat (first | refine brF c10 ?_ | refine brT c00 ?_)
      rfl
    · repeat (first | refine brF c10 ?_ | refine brT c00 ?_)
      rfl
  · refine brk (fun q => ?_) (fun q => ?_)
    · repeat (first | refine brF c10 ?_ | refine brT c00 ?_)
      rfl
    · repeat (first | refine brF c10 ?_ | refine brT c00 ?_)
      rfl
set_option maxRecDepth 100000 in
theorem x_fo_2 {μ : Mem} {k : Rtn} {X : Option Rz} {r : Nat → Int32} (hR : Rep μ 2 r) (hG : G1 r) (hk : k (some (.int (foI r))) μ = X) : S_X0_fallsOut [.ref 2] μ k = X := by
  rw [← hk, ← foX_eq hR hG]
  have hi : inB (μ 2 3 % 6) 6 = true := LX_in hR hG
  have hd : ∀ x : Int32, ¬ x < 0 → x < μ 2 7 → dI x := fun x q1 q2 => (hG.has q1 (by rw [← hR.1.2.1]; exact q2)).dI hG
  refine unl (bfT rfl ?_)
  refine (@bfT _ _ _ _ _ (hi)) ?_
  refine (@bfT _ _ _ _ _ (hi)) ?_
  refine brk (fun q => rfl) (fun q1 => ?_)
  refine brk (fun q2 => ?_) (fun q => ?_)
  rotate_left
  · rfl
  refine brk (fun q => rfl) (fun q3 => ?_)
  refine brk (fun q4 => ?_) (fun q => ?_)
  rotate_left
  · rfl
  refine brk (fun q => rfl) (fun q5 => ?_)
  repeat (first | refine brF c10 ?_ | refine brT c00 ?_)
  refine (@bfT _ _ _ _ _ (in8 (hd _ q1 q2))) ?_
  refine (@bfT _ _ _ _ _ (kdq_2 (hd _ q1 q2))) ?_
  refine brk (fun q => rfl) (fun q6 => ?_)
  refine (@bfT _ _ _ _ _ (in8 (hd _ q3 q4))) ?_
  refine (@bfT _ _ _ _ _ (kdq_2 (hd _ q3 q4))) ?_
  refine brk (fun q => rfl) (fun q7 => ?_)
  rfl
theorem loserX_dI_2 {μ : Mem} {h a b : Int32} (ha : dI a) (hb : dI b) (h0 : ¬ loserX μ 2 h a b = -1) : dI (loserX μ 2 h a b) := by
  unfold loserX at h0 ⊢
  split
  · rename_i q; rw [if_pos q] at h0; exact absurd rfl h0
  · split
    · split
      · exact ha
      · exact hb
    · split
      · exact hb
      · exact ha
set_option maxRecDepth 100000 in
theorem x_lf_2 {μ : Mem} {k : Rtn} {X : Option Rz} {a b : Int32} (ha : dI a) (hb : dI b) (hk : ∀ μ', μ' = lfX μ 2 a b → k none μ' = X) : S_X0_letFall [.ref 2, .int a, .int b] μ k = X := by
  refine unl (bfT rfl ?_)
  refine x_loser_2 ha hb ?_
  refine br (fun q => ?_) (fun q => ?_)
  · refine hk _ ?_
    unfold lfX
    rw [if_pos q]
    rfl
  · have hw := loserX_dI_2 ha hb q
    refine (@bfT _ _ _ _ _ (in8 hw)) ?_
    refine (@bfT _ _ _ _ _ (kdq_2 hw)) ?_
    refine x_fw (kdq_2 hw) (fun μ1 e1 => ?_)
    refine br (fun q1 => ?_) (fun q1 => ?_)
    · refine (@bfT _ _ _ _ _ (in8 hb)) ?_
      refine (@bfT _ _ _ _ _ (kdq_2 hb)) ?_
      refine x_fr (kdq_2 hb) (fun μ2 e2 => ?_)
      refine hk _ ?_
      unfold lfX
      rw [e2, e1, if_neg q, if_pos q1]
      rfl
    · refine (@bfT _ _ _ _ _ (in8 ha)) ?_
      refine (@bfT _ _ _ _ _ (kdq_2 ha)) ?_
      refine x_fr (kdq_2 ha) (fun μ2 e2 => ?_)
      refine hk _ ?_
      unfold lfX
      rw [e2, e1, if_neg q, if_neg q1]
      rfl
set_option maxRecDepth 100000 in
theorem dropOnce_loop_2 {k : Rtn} {X : Option Rz} {μ : Mem} {r : Nat → Int32} (hG : G1 r) (hk : ∀ μ', Rep μ' 2 (upf (coolR (r 1).toNatClampNeg r) 0 (minI 99999 (coolR (r 1).toNatClampNeg r 0 + 1))) → Fr 2 μ μ' → k none μ' = X) :
    ∀ (m i f : Nat) (x : Int32) (ν : Mem), i + m = (r 1).toNatClampNeg → 40 * m + 40 ≤ f → x = nI i → Rep ν 2 (coolR i r) → Fr 2 μ ν → lockO (oILd 1 44) 0 (runK P_X0_dropOnce f k) k [some (.ref 2), some (.int x)] [] ν = X := by
  intro m
  have h8 := hG.n8
  induction m with
  | zero =>
    intro i f x ν hi hf hx hR hF
    subst hx
    obtain ⟨F, rfl⟩ : ∃ F, f = F + 40 := ⟨f - 40, by omega⟩
    have e : i = (r 1).toNatClampNeg := by omega
    have hn : ν 2 7 = r 1 := by rw [hR.1.2.1, (G1_cool hG i (by omega)).2]
    refine unO ?_
    have hc : ¬ nI i < ν 2 7 := by
      rw [hn, hG.n1, ← e]
      exact nI_nlt (Nat.le_refl _) (by omega)
    refine brF hc ?_
    refine hk _ ?_ (hF.tr (Fr.up (Or.inl rfl)))
    have h9 := rep_own (k := 3) (v := minI (ν 2 3 + 1) 99999) ⟨by decide, by decide⟩ hR (by decide)
    rw [hR.1.1, minI_comm, e] at h9
    have e3 : ν 2 3 = coolR (r 1).toNatClampNeg r 0 := by rw [hR.1.1, e]
    have e4 : minI (ν 2 3 + 1) 99999 = minI 99999 (coolR (r 1).toNatClampNeg r 0 + 1) := by rw [e3, minI_comm]
    show Rep (up2 ν 2 3 (minI (ν 2 3 + 1) 99999)) 2 _
    rw [e4]
    exact h9
  | succ m ih =>
    intro i f x ν hi hf hx hR hF
    subst hx
    obtain ⟨F, rfl⟩ : ∃ F, f = F + 40 := ⟨f - 40, by omega⟩
    have hi8 : i < 8 := by omega
    have hd : dI (nI i) := ⟨i, hi8, rfl⟩
    obtain ⟨gc, e1⟩ := G1_cool hG i (by omega)
    have hn : ν 2 7 = r 1 := by rw [hR.1.2.1, e1]
    refine unO ?_
    have hc : nI i < ν 2 7 := by
      rw [hn, hG.n1]
      exact nI_lt (by omega) (by omega)
    refine brT hc ?_
    have hin : i < (coolR i r 1).toNatClampNeg := by rw [e1]; omega
    have r9 := hR.2.2.2 i hin
    have hk0 : ∃ d : Nat, d < 7 ∧ ν (21 + (nI i).toNatClampNeg) 0 = nI d := by
      obtain ⟨d, hd, e⟩ := (gc.2.2 i hin).1
      refine ⟨d, by omega, ?_⟩
      rw [nI_cl (by omega)]
      exact (r9 0 (by decide)).trans e
    refine (@bfT _ _ _ _ _ (in8 hd)) ?_
    refine (@bfT _ _ _ _ _ (kdq_2 hd)) ?_
    refine x_cd (kdq_2 hd) hk0 (fun μ1 e2 => ?_)
    have e5 : (nI i).toNatClampNeg = i := nI_cl (by omega)
    rw [e5] at e2
    refine ih (i + 1) _ _ _ (by omega) (by omega) (nI_succ i).symm ?_ ?_
    · have h9 := rep_put (g := 2) (v := maxI (ν (21 + i) 2 - coolsV (ν (21 + i) 0)) 0) ⟨by decide, by decide⟩ hR hin (by decide)
      have e6 : ν (21 + i) 2 = coolR i r (22 + 6 * i + 2) := r9 2 (by decide)
      have e7 : ν (21 + i) 0 = coolR i r (22 + 6 * i) := r9 0 (by decide)
      rw [coolR_s hi8, e2]
      rw [e6, e7, maxI_comm] at h9
      have e8 : up1 ν (21 + i) (cdX (ν (21 + i))) = up2 ν (5 + 8 * 2 + i) 2 (maxI 0 (coolR i r (22 + 6 * i + 2) - coolsV (coolR i r (22 + 6 * i)))) := by
        show up1 ν (21 + i) (upf (ν (21 + i)) 2 (maxI (ν (21 + i) 2 - coolsV (ν (21 + i) 0)) 0)) = _
        rw [e6, e7, maxI_comm]
        rfl
      show Rep (up1 ν (21 + i) (cdX (ν (21 + i)))) 2 _
      rw [e8]
      exact h9
    · rw [e2]
      exact hF.tr (Fr.up (inC_d (c := 2) hi8))
set_option maxRecDepth 100000 in
theorem x_drop_2 {μ : Mem} {k : Rtn} {X : Option Rz} {r : Nat → Int32} (hR : Rep μ 2 r) (hG : G1 r) (hk : ∀ μ', Rep μ' 2 (dropR r) → Fr 2 μ μ' → k none μ' = X) : S_X0_dropOnce [.ref 2] μ k = X := by
  have h8 := hG.n8
  have hg := G1_drops1 hG
  have e1 := drops1_1 hG
  have hi : inB (μ 2 3 % 6) 6 = true := LX_in hR hG
  have hk2 : ∀ μ', Rep μ' 2 (upf (coolR (dropsR1 r 1).toNatClampNeg (dropsR1 r)) 0 (minI 99999 (coolR (dropsR1 r 1).toNatClampNeg (dropsR1 r) 0 + 1))) → Fr 2 μ μ' → k none μ' = X := by
    intro μ' g1 g2
    refine hk μ' ?_ g2
    rw [e1] at g1
    exact g1
  refine unl (bfT rfl ?_)
  refine x_fo_2 hR hG ?_
  refine br (fun q => ?_) (fun q => ?_)
  · obtain ⟨ha, hb, hab⟩ := fo_has hG q
    have eL : LX μ 2 = LR r := LX_eq hR hG
    refine (@bfT _ _ _ _ _ (hi)) ?_
    refine (@bfT _ _ _ _ _ (hi)) ?_
    have ha2 : dI (LX μ 2 / 10) := by rw [eL]; exact ha.dI hG
    have hb2 : dI (LX μ 2 % 10) := by rw [eL]; exact hb.dI hG
    refine x_lf_2 ha2 hb2 (fun μ1 em => ?_)
    obtain ⟨g1, g2⟩ := rep_lf (c := 2) ⟨by decide, by decide⟩ hR hG ha hb hab
    have em2 : μ1 = lfX μ 2 (LR r / 10) (LR r % 10) := by
      rw [em, ← eL]
      rfl
    refine dropOnce_loop_2 hg hk2 (dropsR1 r 1).toNatClampNeg 0 _ _ _ (by omega) (fu (by rw [e1]; omega) rfl) rfl ?_ ?_
    · unfold dropsR1
      rw [if_pos q, em2]
      exact g1
    · rw [em2]; exact g2
  · refine dropOnce_loop_2 hg hk2 (dropsR1 r 1).toNatClampNeg 0 _ _ _ (by omega) (fu (by rw [e1]; omega) rfl) rfl ?_ Fr.rf
    unfold dropsR1
    rw [if_neg q]
    exact hR
