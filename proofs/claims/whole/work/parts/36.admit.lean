/-! ahead; new ones -/
set_option maxRecDepth 100000 in
theorem T_ahead {μ : Mem} {k1 : Rtn} {K : Int32 → Rtn} {X : Option Rz} (hI : Inv μ) {d w a : Int32} (hm : ∀ z μ1, k1 (some (.int z)) μ1 = S_X5_ahead [.ref 49, .int d, .int w, .int a] μ1 (K z)) (hK : ∀ v w μ2, v = w → Inv μ2 → K v (some (.int w)) μ2 = X) : S_X4_ahead [.ref 0, .int d, .int w, .int a] μ k1 = X := by
  have e50 : ∀ ν : Mem, Fr 2 μ ν → ν 50 = μ 50 := fun ν f => f 50 (by unfold inC; omega)
  have bec : ∀ (k2 : Rtn), (∀ ν, Rep ν 2 (μ 50) → Fr 2 μ ν → k2 none ν = X) → S_X0_become [.ref 2, .ref 1] μ k2 = X := fun k2 hh => x_bec_21 hI.1.1 hI.1.2 hh
  rcases has_cases hI d with ⟨hd, g1, g2, g3⟩ | g1 | ⟨g1, g2, g3⟩
  rotate_left
  · refine unl (bfT rfl ?_)
    repeat' (first | refine brT (by assumption) ?_ | refine brF (by assumption) ?_ | refine br (fun q => ?_) (fun q => ?_))
    all_goals (refine x_tell0 ?_; refine (hm _ _).trans ?_; refine unl (bfT rfl ?_); (repeat' (first | refine brF c10 ?_ | refine brT c00 ?_ | refine brF c01 ?_ | refine brT c11 ?_ | refine brT (by assumption) ?_ | refine brF (by assumption) ?_)); refine e_find0 ?_; exact hK _ _ _ rfl (Inv_tell hI (by decide)))
  · refine unl (bfT rfl ?_)
    repeat' (first | refine brT (by assumption) ?_ | refine brF (by assumption) ?_ | refine br (fun q => ?_) (fun q => ?_))
    all_goals (refine x_tell0 ?_; refine (hm _ _).trans ?_; refine unl (bfT rfl ?_); (repeat' (first | refine brF c10 ?_ | refine brT c00 ?_ | refine brF c01 ?_ | refine brT c11 ?_ | refine brT (by assumption) ?_ | refine brF (by assumption) ?_)); refine e_find0 ?_; exact hK _ _ _ rfl (Inv_tell hI (by decide)))
  by_cases a1 : a < 0
  · refine unl (bfT rfl ?_)
    repeat' (first | refine brT (by assumption) ?_ | refine brF (by assumption) ?_ | refine br (fun q => ?_) (fun q => ?_))
    all_goals (refine x_tell0 ?_; refine (hm _ _).trans ?_; refine unl (bfT rfl ?_); (repeat' (first | refine brF c10 ?_ | refine brT c00 ?_ | refine brF c01 ?_ | refine brT c11 ?_ | refine brT (by assumption) ?_ | refine brF (by assumption) ?_)); refine e_find0 ?_; exact hK _ _ _ rfl (Inv_tell hI (by decide)))
  by_cases a2 : 100 < a
  · refine unl (bfT rfl ?_)
    repeat' (first | refine brT (by assumption) ?_ | refine brF (by assumption) ?_ | refine br (fun q => ?_) (fun q => ?_))
    all_goals (refine x_tell0 ?_; refine (hm _ _).trans ?_; refine unl (bfT rfl ?_); (repeat' (first | refine brF c10 ?_ | refine brT c00 ?_ | refine brF c01 ?_ | refine brT c11 ?_ | refine brT (by assumption) ?_ | refine brF (by assumption) ?_)); refine e_find0 ?_; exact hK _ _ _ rfl (Inv_tell hI (by decide)))
  by_cases w6 : w = 6
  · subst w6
    have hw : VB (6 : Int32) 10 := ⟨6, by decide, rfl⟩
    refine unl (bfT rfl ?_)
    repeat' (first | refine brF c10 ?_ | refine brT c00 ?_ | refine brF c01 ?_ | refine brT c11 ?_ | refine brT (by assumption) ?_ | refine brF (by assumption) ?_)
    refine bec _ (fun ν rv fv => ?_)
    obtain ⟨n, hn, rfl⟩ := nlt_VB (n := 100) (by decide) a1 a2
    refine ahead_loop hn hd hw hI.1.2 (fun ν2 f2 => ?_) n 0 _ _ _ (by omega) (Nat.le_trans (show 40 * n + 40 ≤ 4100 by omega) (Nat.le_of_ble_eq_true rfl)) rfl rv fv
    have e := e50 ν2 f2
    have g4 : ¬ ν2 50 1 - 1 < d := by rw [e]; exact g3
    refine (hm _ _).trans ?_
    refine unl (bfT rfl ?_)
    repeat' (first | refine brF c10 ?_ | refine brT c00 ?_ | refine brF c01 ?_ | refine brT c11 ?_ | refine brT (by assumption) ?_ | refine brF (by assumption) ?_)
    refine e_copy_50_52 (fun μ1 e1 => ?_)
    have m50 : μ1 50 = μ 50 := by rw [e1, up1_ne _ _ (by decide)]; exact e
    refine e_dropsGo (n := n) (by omega) rfl (by rw [m50]; exact hI.1.2) (fun μ2 e2 => ?_)
    rw [m50] at e2
    have q50 : μ2 50 = itR n (μ 50) := by rw [e2, up1_at]
    refine e_told (hd.dI hI.1.2) hw ?_
    rw [q50]
    refine e_putBack (fun μ3 e3 => ?_)
    rw [e2, e1] at e3
    exact hK _ _ _ rfl ((bk_of e3).inv hI f2)
  by_cases w1 : w < 1
  · refine unl (bfT rfl ?_)
    repeat' (first | refine brT (by assumption) ?_ | refine brF (by assumption) ?_ | refine br (fun q => ?_) (fun q => ?_))
    all_goals (refine x_tell0 ?_; refine (hm _ _).trans ?_; refine unl (bfT rfl ?_); (repeat' (first | refine brF c10 ?_ | refine brT c00 ?_ | refine brF c01 ?_ | refine brT c11 ?_ | refine brT (by assumption) ?_ | refine brF (by assumption) ?_)); refine e_find0 ?_; exact hK _ _ _ rfl (Inv_tell hI (by decide)))
  by_cases w2 : 4 < w
  · refine unl (bfT rfl ?_)
    repeat' (first | refine brT (by assumption) ?_ | refine brF (by assumption) ?_ | refine br (fun q => ?_) (fun q => ?_))
    all_goals (refine x_tell0 ?_; refine (hm _ _).trans ?_; refine unl (bfT rfl ?_); (repeat' (first | refine brF c10 ?_ | refine brT c00 ?_ | refine brF c01 ?_ | refine brT c11 ?_ | refine brT (by assumption) ?_ | refine brF (by assumption) ?_)); refine e_find0 ?_; exact hK _ _ _ rfl (Inv_tell hI (by decide)))
  · have hw : VB w 10 := by
      obtain ⟨m, hm9, e9⟩ := nlt_VB (n := 4) (x := w) (by decide) (fun q => w1 (Int32.lt_of_lt_of_le q (by decide))) w2
      exact ⟨m, by omega, e9⟩
    refine unl (bfT rfl ?_)
    repeat' (first | refine brF c10 ?_ | refine brT c00 ?_ | refine brF c01 ?_ | refine brT c11 ?_ | refine brT (by assumption) ?_ | refine brF (by assumption) ?_)
    refine bec _ (fun ν rv fv => ?_)
    obtain ⟨n, hn, rfl⟩ := nlt_VB (n := 100) (by decide) a1 a2
    refine ahead_loop hn hd hw hI.1.2 (fun ν2 f2 => ?_) n 0 _ _ _ (by omega) (Nat.le_trans (show 40 * n + 40 ≤ 4100 by omega) (Nat.le_of_ble_eq_true rfl)) rfl rv fv
    have e := e50 ν2 f2
    have g4 : ¬ ν2 50 1 - 1 < d := by rw [e]; exact g3
    refine (hm _ _).trans ?_
    refine unl (bfT rfl ?_)
    repeat' (first | refine brF c10 ?_ | refine brT c00 ?_ | refine brF c01 ?_ | refine brT c11 ?_ | refine brT (by assumption) ?_ | refine brF (by assumption) ?_)
    refine e_copy_50_52 (fun μ1 e1 => ?_)
    have m50 : μ1 50 = μ 50 := by rw [e1, up1_ne _ _ (by decide)]; exact e
    refine e_dropsGo (n := n) (by omega) rfl (by rw [m50]; exact hI.1.2) (fun μ2 e2 => ?_)
    rw [m50] at e2
    have q50 : μ2 50 = itR n (μ 50) := by rw [e2, up1_at]
    refine e_told (hd.dI hI.1.2) hw ?_
    rw [q50]
    refine e_putBack (fun μ3 e3 => ?_)
    rw [e2, e1] at e3
    exact hK _ _ _ rfl ((bk_of e3).inv hI f2)
def bgX (m : Nat → Int32) (kind cause : Int32) : Nat → Int32 := upf (upf (upf (upf (upf (upf m 0 kind) 1 cause) 2 20) 3 0) 4 0) 5 0
set_option maxRecDepth 100000 in
theorem x_begin {μ : Mem} {k : Rtn} {X : Option Rz} {i : Nat} {a b : Int32} (hb : Nat.beq (kd i) 1 = true) (hk : ∀ μ', μ' = up1 μ i (bgX (μ i) a b) → k none μ' = X) : S_X1_begin [.ref i, .int a, .int b] μ k = X := by
  refine unl (bfT rfl ?_)
  refine (@bfT _ _ _ _ _ (hb)) ?_
  refine (@bfT _ _ _ _ _ (hb)) ?_
  refine (@bfT _ _ _ _ _ (hb)) ?_
  refine (@bfT _ _ _ _ _ (hb)) ?_
  refine (@bfT _ _ _ _ _ (hb)) ?_
  refine (@bfT _ _ _ _ _ (hb)) ?_
  refine hk _ ?_
  simp only [up2, up1_at, up1_same]
  rfl
/-- a row with one more -/
def cmR (r : Nat → Int32) (n : Nat) (kind cause : Int32) : Nat → Int32 := upf (upf (upf (upf (upf (upf (upf (upf (upf (upf r (22 + 6 * n) 0) (22 + 6 * n + 1) 0) (22 + 6 * n + 2) 0) (22 + 6 * n + 3) 0) (22 + 6 * n + 4) 0) (22 + 6 * n + 5) 0) (22 + 6 * n) kind) (22 + 6 * n + 1) cause) (22 + 6 * n + 2) 20) 1 (nI (n + 1))
theorem cmR_lo {r : Nat → Int32} {n : Nat} {a b : Int32} {j : Nat} (h1 : ¬ j = 1) (hj : j < 22 + 6 * n) : cmR r n a b j = r j := by
  unfold cmR
  rw [upf_ne _ _ h1, upf_ne _ _ (by omega), upf_ne _ _ (by omega), upf_ne _ _ (by omega), upf_ne _ _ (by omega), upf_ne _ _ (by omega), upf_ne _ _ (by omega), upf_ne _ _ (by omega), upf_ne _ _ (by omega), upf_ne _ _ (by omega)]
theorem cmR_1 {r : Nat → Int32} {n : Nat} {a b : Int32} : cmR r n a b 1 = nI (n + 1) := upf_at _ _ _
theorem cmR_n {r : Nat → Int32} {n : Nat} {a b : Int32} {f : Nat} (hf : f < 6) : cmR r n a b (22 + 6 * n + f) = bgX (fun _ => 0) a b f := by
  unfold cmR
  rw [upf_ne _ _ (by omega)]
  rcases (by omega : f = 0 ∨ f = 1 ∨ f = 2 ∨ f = 3 ∨ f = 4 ∨ f = 5) with rfl | rfl | rfl | rfl | rfl | rfl
  · rw [upf_ne _ _ (by omega), upf_ne _ _ (by omega), show 22 + 6 * n + 0 = 22 + 6 * n from rfl, upf_at]; rfl
  · rw [upf_ne _ _ (by omega), upf_at]; rfl
  · rw [upf_at]; rfl
  · rw [upf_ne _ _ (by omega), upf_ne _ _ (by omega), upf_ne _ _ (by omega), upf_ne _ _ (by omega), upf_ne _ _ (by omega), upf_at]; rfl
  · rw [upf_ne _ _ (by omega), upf_ne _ _ (by omega), upf_ne _ _ (by omega), upf_ne _ _ (by omega), upf_at]; rfl
  · rw [upf_ne _ _ (by omega), upf_ne _ _ (by omega), upf_ne _ _ (by omega), upf_at]; rfl
theorem bgX_at {m : Nat → Int32} {a b : Int32} {f : Nat} (hf : f < 6) : bgX m a b f = bgX (fun _ => 0) a b f := by
  rcases (by omega : f = 0 ∨ f = 1 ∨ f = 2 ∨ f = 3 ∨ f = 4 ∨ f = 5) with rfl | rfl | rfl | rfl | rfl | rfl <;> rfl
theorem rep_admit {ν : Mem} {c : Nat} {R : Nat → Int32} {n : Nat} {a b : Int32} (hc : 1 ≤ c ∧ c ≤ 3) (hn : n < 8) (en : R 1 = nI n) (h : Rep ν c R) : Rep (up2 (up1 ν (5 + 8 * c + n) (bgX (ν (5 + 8 * c + n)) a b)) c 7 (nI (n + 1))) c (cmR R n a b) := by
  have e1 : (R 1).toNatClampNeg = n := by rw [en, nI_cl (by omega)]
  obtain ⟨⟨h1, h2, h3, h4, h5, h6⟩, h7, h8, h9⟩ := h
  have eo : ∀ i, ¬ i = c → ¬ i = 5 + 8 * c + n → up2 (up1 ν (5 + 8 * c + n) (bgX (ν (5 + 8 * c + n)) a b)) c 7 (nI (n + 1)) i = ν i := fun i p q => by rw [up2_ne _ _ p, up1_ne _ _ q]
  have ec : up2 (up1 ν (5 + 8 * c + n) (bgX (ν (5 + 8 * c + n)) a b)) c 7 (nI (n + 1)) c = upf (ν c) 7 (nI (n + 1)) := by rw [up2_at, up1_ne _ _ (by omega)]
  unfold Rep
  rw [ec, eo (3 + c) (by omega) (by omega), eo (6 + c) (by omega) (by omega), cmR_1, cmR_lo (j := 0) (by decide) (by omega), cmR_lo (j := 2) (by decide) (by omega), cmR_lo (j := 3) (by decide) (by omega), cmR_lo (j := 4) (by decide) (by omega), cmR_lo (j := 5) (by decide) (by omega), nI_cl (by omega)]
  refine ⟨⟨h1, rfl, h3, h4, h5, h6⟩, fun j hj => ?_, fun j hj => ?_, fun d hd f hf => ?_⟩
  · rw [cmR_lo (by omega) (by omega)]; exact h7 j hj
  · rw [cmR_lo (by omega) (by omega)]; exact h8 j hj
  · by_cases e : d = n
    · subst e
      rw [up2_ne _ _ (by omega), up1_at, cmR_n hf, bgX_at hf]
    · rw [eo _ (by omega) (by omega), cmR_lo (by omega) (by omega)]
      exact h9 d (by omega) f hf
theorem G1_admit {r : Nat → Int32} (hG : G1 r) {n : Nat} {a b : Int32} (hn : n < 8) (en : r 1 = nI n) (ha : VB a 6) (hb : VB b 99) : G1 (cmR r n a b) := by
  have e1 : (r 1).toNatClampNeg = n := by rw [en, nI_cl (by omega)]
  obtain ⟨⟨a0, a1, a4, a5⟩, q2, q3⟩ := hG
  unfold G1
  rw [cmR_1, nI_cl (by omega), cmR_lo (j := 0) (by decide) (by omega), cmR_lo (j := 4) (by decide) (by omega), cmR_lo (j := 5) (by decide) (by omega)]
  refine ⟨⟨a0, ⟨n + 1, by omega, rfl⟩, a4, a5⟩, fun j hj => ?_, fun d hd => ?_⟩
  · rw [cmR_lo (by omega) (by omega)]
    rcases q2 j hj with q | ⟨d, hd, q⟩
    · exact Or.inl q
    · exact Or.inr ⟨d, by omega, q⟩
  · by_cases e : d = n
    · subst e
      have c0 : cmR r d a b (22 + 6 * d) = a := cmR_n (f := 0) (by decide)
      rw [c0, cmR_n (f := 1) (by decide), cmR_n (f := 2) (by decide), cmR_n (f := 3) (by decide), cmR_n (f := 5) (by decide)]
      exact ⟨ha, hb, ⟨20, by decide, rfl⟩, ⟨0, by decide, rfl⟩, ⟨0, by decide, rfl⟩⟩
    · rw [cmR_lo (by omega) (by omega), cmR_lo (by omega) (by omega), cmR_lo (by omega) (by omega), cmR_lo (by omega) (by omega), cmR_lo (by omega) (by omega)]
      exact q3 d (by omega)
set_option maxRecDepth 100000 in
theorem x_admit_1 {μ : Mem} {k : Rtn} {X : Option Rz} {r : Nat → Int32} {n : Nat} {a b : Int32} (hn : n < 8) (en : r 1 = nI n) (hR : Rep μ 1 r) (hk : ∀ μ', Rep μ' 1 (cmR r n a b) → Fr 1 μ μ' → k (some (.int (nI n))) μ' = X) : S_X0_admit [.ref 1, .int a, .int b] μ k = X := by
  have e7 : μ 1 7 = nI n := by rw [hR.1.2.1, en]
  have hd : dI (μ 1 7) := ⟨n, hn, e7⟩
  have en2 : (μ 1 7).toNatClampNeg = n := by rw [e7, nI_cl (by omega)]
  refine unl (bfT rfl ?_)
  refine (@bfT _ _ _ _ _ (in8 hd)) ?_
  refine (@bfT _ _ _ _ _ (kdq_1 hd)) ?_
  refine x_begin (kdq_1 hd) (fun μ1 e1 => ?_)
  have e1' : μ1 = up1 μ (5 + 8 * 1 + n) (bgX (μ (5 + 8 * 1 + n)) a b) := by
    rw [e1]
    show up1 μ (13 + (μ 1 7).toNatClampNeg) (bgX (μ (13 + (μ 1 7).toNatClampNeg)) a b) = _
    rw [en2]
  have m7 : μ1 1 7 = nI n := by rw [e1', up1_ne _ _ (by omega)]; exact e7
  have hv : (μ1 1 7 + 1) - 1 = nI n := by rw [m7, nI_1]; exact nI_pred n
  have h9 := hk (up2 μ1 1 7 (μ1 1 7 + 1)) (by rw [m7, nI_1, e1']; exact rep_admit ⟨by decide, by decide⟩ hn en hR) (by rw [e1']; exact (Fr.up (inC_d (c := 1) hn)).tr (Fr.up (Or.inl rfl)))
  rw [← hv] at h9
  exact h9
set_option maxRecDepth 100000 in
theorem x_admit_2 {μ : Mem} {k : Rtn} {X : Option Rz} {r : Nat → Int32} {n : Nat} {a b : Int32} (hn : n < 8) (en : r 1 = nI n) (hR : Rep μ 2 r) (hk : ∀ μ', Rep μ' 2 (cmR r n a b) → Fr 2 μ μ' → k (some (.int (nI n))) μ' = X) : S_X0_admit [.ref 2, .int a, .int b] μ k = X := by
  have e7 : μ 2 7 = nI n := by rw [hR.1.2.1, en]
  have hd : dI (μ 2 7) := ⟨n, hn, e7⟩
  have en2 : (μ 2 7).toNatClampNeg = n := by rw [e7, nI_cl (by omega)]
  refine unl (bfT rfl ?_)
  refine (@bfT _ _ _ _ _ (in8 hd)) ?_
  refine (@bfT _ _ _ _ _ (kdq_2 hd)) ?_
  refine x_begin (kdq_2 hd) (fun μ1 e1 => ?_)
  have e1' : μ1 = up1 μ (5 + 8 * 2 + n) (bgX (μ (5 + 8 * 2 + n)) a b) := by
    rw [e1]
    show up1 μ (21 + (μ 2 7).toNatClampNeg) (bgX (μ (21 + (μ 2 7).toNatClampNeg)) a b) = _
    rw [en2]
  have m7 : μ1 2 7 = nI n := by rw [e1', up1_ne _ _ (by omega)]; exact e7
  have hv : (μ1 2 7 + 1) - 1 = nI n := by rw [m7, nI_1]; exact nI_pred n
  have h9 := hk (up2 μ1 2 7 (μ1 2 7 + 1)) (by rw [m7, nI_1, e1']; exact rep_admit ⟨by decide, by decide⟩ hn en hR) (by rw [e1']; exact (Fr.up (inC_d (c := 2) hn)).tr (Fr.up (Or.inl rfl)))
  rw [← hv] at h9
  exact h9
