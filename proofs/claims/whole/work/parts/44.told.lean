/-! told falls: fits, height, kinds -/
def tdB (F r : Nat → Int32) (d : Int32) (i : Nat) : Bool := !(decide (F i = -1) || decide (F i = rD (itR i r) d 3))
def tdV (F r : Nat → Int32) (d : Int32) (n : Nat) : Int32 := if fsP (tdB F r d) n 0 = n then 1 else 0
theorem sh2 {μ ν : Mem} (h : Fr 2 μ ν) (j : Nat) : ν (40 + j) = μ (40 + j) := h _ (by unfold inC; omega)
theorem shN {μ ν : Mem} (h : Fr 2 μ ν) {j : Nat} (hj : j < 4) : ν (rfOf (40 + (nI j).toNatClampNeg) 2) = μ (rfOf (40 + (nI j).toNatClampNeg) 2) := by
  rw [rfN hj]
  exact h _ (by unfold inC; omega)
set_option maxRecDepth 100000 in
theorem tia_loop {k : Rtn} {X : Option Rz} {μ : Mem} {d : Int32} {r F : Nat → Int32} {j n : Nat} (hj : j < 4) (hn : n ≤ 40) (hd : hasR r d) (hG : G1 r) (e1 : μ (40 + (nI j).toNatClampNeg) 1 = nI n) (hF0 : ∀ i, i < 40 → μ (rfOf (40 + (nI j).toNatClampNeg) 2) i = F i) (hk : ∀ ν w, w = tdV F r d n → Fr 2 μ ν → k (some (.int w)) ν = X) :
    ∀ (m i f : Nat) (x : Int32) (ν : Mem), i + m = n → 80 * m + 80 ≤ f → x = nI i → Rep ν 2 (itR (i - 1) r) → Fr 2 μ ν → fsP (tdB F r d) n 0 = fsP (tdB F r d) m i → lockO (oILd 4 15) 0 (runK P_X4_trialIsAsTold f k) k [some (.ref 0), some (.ref (40 + (nI j).toNatClampNeg)), some (.int d), some (.ref (21 + d.toNatClampNeg)), some (.int x)] [] ν = X := by
  have hx := hd.dI hG
  intro m
  induction m with
  | zero =>
    intro i f x ν hi hf hxx hR hF hs
    subst hxx
    obtain ⟨f2, rfl⟩ : ∃ f2, f = f2 + 80 := ⟨f - 80, by omega⟩
    have hc : ¬ nI i < ν (40 + (nI j).toNatClampNeg) 1 := by
      rw [sh2 hF, e1]
      exact nI_nlt (by omega) (by omega)
    refine unO ?_
    refine (@bfT _ _ _ _ _ (kdS hj)) ?_
    refine brF hc ?_
    have es : fsP (tdB F r d) n 0 = n := hs.trans (show i = n by omega)
    exact hk _ _ (by unfold tdV; rw [if_pos es]) hF
  | succ m ih =>
    intro i f x ν hi hf hxx hR hF hs
    subst hxx
    obtain ⟨f2, rfl⟩ : ∃ f2, f = f2 + 80 := ⟨f - 80, by omega⟩
    have hc : nI i < ν (40 + (nI j).toNatClampNeg) 1 := by
      rw [sh2 hF, e1]
      exact nI_lt (by omega) (by omega)
    have fin : ∀ ν2, Fr 2 μ ν2 → tdB F r d i = true → k (some (.int 0)) ν2 = X := by
      intro ν2 hF2 q
      have es : fsP (tdB F r d) n 0 = i := hs.trans (fsP_t q)
      exact hk _ _ (by unfold tdV; rw [es, if_neg (by omega)]) hF2
    refine unO ?_
    refine (@bfT _ _ _ _ _ (kdS hj)) ?_
    refine brT hc ?_
    cases i with
    | zero =>
      have hF2 := hF
      have r2 : Rep ν 2 (itR 0 r) := hR
      have eF : ν (rfOf (40 + (nI j).toNatClampNeg) 2) (nI (0)).toNatClampNeg = F (0) := by
        rw [nI_cl (show 0 < 100000 by omega), shN hF2 hj]
        exact hF0 (0) (by omega)
      have eR : ν (21 + d.toNatClampNeg) 3 = rD (itR (0) r) d 3 := rep_at r2 (G1_it hG (0)) (hasR_it hG hd (0)) (g := 3) (by decide)
      refine (@bfT _ _ _ _ _ (kdS hj)) ?_
      refine (@bfT _ _ _ _ _ (kdN hj)) ?_
      refine (@bfT _ _ _ _ _ (inN hj (show 0 < 40 by omega))) ?_
      by_cases q1 : F (0) = -1
      · refine brT (eF.trans q1) ?_
        have hB : tdB F r d (0) = false := by simp [tdB, q1]
        exact ih (0 + 1) _ _ _ (by omega) (by omega) (nI_succ (0)).symm r2 hF2 (hs.trans (fsP_s hB))
      · refine brF (fun q => q1 (eF.symm.trans q)) ?_
        refine (@bfT _ _ _ _ _ (kdS hj)) ?_
        refine (@bfT _ _ _ _ _ (kdN hj)) ?_
        refine (@bfT _ _ _ _ _ (inN hj (show 0 < 40 by omega))) ?_
        refine (@bfT _ _ _ _ _ (kdq_2 hx)) ?_
        by_cases q2 : F (0) = rD (itR (0) r) d 3
        · refine brT (eF.trans (q2.trans eR.symm)) ?_
          have hB : tdB F r d (0) = false := by simp [tdB, q2]
          exact ih (0 + 1) _ _ _ (by omega) (by omega) (nI_succ (0)).symm r2 hF2 (hs.trans (fsP_s hB))
        · refine brF (fun q => q2 (eF.symm.trans (q.trans eR))) ?_
          exact fin ν hF2 (by simp [tdB, q1, q2])
    | succ e =>
      have hRe : Rep ν 2 (itR e r) := hR
      refine brT (show (0 : Int32) < nI (e + 1) from nI_lt (a := 0) (b := e + 1) (by omega) (by omega)) ?_
      refine x_drop_2 hRe (G1_it hG e) (fun ν1 r1 f1 => ?_)
      have hF2 := hF.tr f1
      have r2 : Rep ν1 2 (itR (e + 1) r) := r1
      have eF : ν1 (rfOf (40 + (nI j).toNatClampNeg) 2) (nI (e + 1)).toNatClampNeg = F (e + 1) := by
        rw [nI_cl (show e + 1 < 100000 by omega), shN hF2 hj]
        exact hF0 (e + 1) (by omega)
      have eR : ν1 (21 + d.toNatClampNeg) 3 = rD (itR (e + 1) r) d 3 := rep_at r2 (G1_it hG (e + 1)) (hasR_it hG hd (e + 1)) (g := 3) (by decide)
      refine (@bfT _ _ _ _ _ (kdS hj)) ?_
      refine (@bfT _ _ _ _ _ (kdN hj)) ?_
      refine (@bfT _ _ _ _ _ (inN hj (show e + 1 < 40 by omega))) ?_
      by_cases q1 : F (e + 1) = -1
      · refine brT (eF.trans q1) ?_
        have hB : tdB F r d (e + 1) = false := by simp [tdB, q1]
        exact ih (e + 1 + 1) _ _ _ (by omega) (by omega) (nI_succ (e + 1)).symm r2 hF2 (hs.trans (fsP_s hB))
      · refine brF (fun q => q1 (eF.symm.trans q)) ?_
        refine (@bfT _ _ _ _ _ (kdS hj)) ?_
        refine (@bfT _ _ _ _ _ (kdN hj)) ?_
        refine (@bfT _ _ _ _ _ (inN hj (show e + 1 < 40 by omega))) ?_
        refine (@bfT _ _ _ _ _ (kdq_2 hx)) ?_
        by_cases q2 : F (e + 1) = rD (itR (e + 1) r) d 3
        · refine brT (eF.trans (q2.trans eR.symm)) ?_
          have hB : tdB F r d (e + 1) = false := by simp [tdB, q2]
          exact ih (e + 1 + 1) _ _ _ (by omega) (by omega) (nI_succ (e + 1)).symm r2 hF2 (hs.trans (fsP_s hB))
        · refine brF (fun q => q2 (eF.symm.trans (q.trans eR))) ?_
          exact fin ν1 hF2 (by simp [tdB, q1, q2])
set_option maxRecDepth 100000 in
theorem x_tia {μ : Mem} {k : Rtn} {X : Option Rz} {d : Int32} {r F : Nat → Int32} {j n : Nat} (hj : j < 4) (hn : n ≤ 40) (hd : hasR r d) (hG : G1 r) (hR : Rep μ 2 r) (e1 : μ (40 + (nI j).toNatClampNeg) 1 = nI n) (hF : ∀ i, i < 40 → μ (rfOf (40 + (nI j).toNatClampNeg) 2) i = F i) (hk : ∀ ν w, w = tdV F r d n → Fr 2 μ ν → k (some (.int w)) ν = X) : S_X4_trialIsAsTold [.ref 0, .ref (40 + (nI j).toNatClampNeg), .int d] μ k = X := by
  refine unl (bfT rfl ?_)
  refine (@bfT _ _ _ _ _ (in8 (hd.dI hG))) ?_
  exact tia_loop hj hn hd hG e1 hF hk n 0 _ _ _ (by omega) (Nat.le_trans (show _ ≤ 3280 by omega) (Nat.le_of_ble_eq_true rfl)) rfl hR Fr.rf rfl
theorem back_it {μ ν ν3 : Mem} {m : Nat} (hG : G1 (μ 50)) (e50 : ν 50 = itR m (μ 50)) (e52 : ν 52 = cpI 70 (μ 50) (μ 52)) (eo : ∀ i, ¬ i = 50 → ¬ i = 52 → ν i = μ i) (e3 : ν3 = up1 ν 50 (cpI 70 (ν 52) (ν 50))) : ∀ i, ¬ i = 52 → ν3 i = μ i := by
  intro i hi
  by_cases q : i = 50
  · subst q
    rw [e3, up1_at, e52, e50]
    funext j
    by_cases hj : j < 70
    · rw [cpI_lt hj, cpI_lt hj]
    · unfold cpI
      rw [if_neg hj]
      exact it_hi hG m (by omega)
  · rw [e3, up1_ne _ _ q]; exact eo i q hi
set_option maxRecDepth 100000 in
theorem iw_loop {k : Rtn} {X : Option Rz} {μ : Mem} {d : Int32} {F : Nat → Int32} {j n : Nat} (hj : j < 4) (hn : n ≤ 40) (hx : dI d) (hG : G1 (μ 50)) (e1 : μ 57 (nI j).toNatClampNeg = nI n) (hF : ∀ i, i < 40 → μ 58 (40 * j + i) = F i) (hk : ∀ ν w, w = tdV F (μ 50) d n → (∀ i, ¬ i = 52 → ν i = μ i) → k (some (.int w)) ν = X) :
    ∀ (m i f : Nat) (x : Int32) (w : Option Value) (ν : Mem), i + m = n → 80 * m + 160 ≤ f → x = nI i → ν 50 = itR i (μ 50) → ν 52 = cpI 70 (μ 50) (μ 52) → (∀ i, ¬ i = 50 → ¬ i = 52 → ν i = μ i) → fsP (tdB F (μ 50) d) n 0 = fsP (tdB F (μ 50) d) m i → lockO (oILd 4 18) 0 (runK P_X5_isWrongSo f k) k [some (.ref 49), some (.int (nI j)), some (.int d), some (.int 1), some (.int x), w] [] ν = X := by
  have inS : inB (nI j) 4 = true := inB_nI hj (by decide)
  intro m
  induction m with
  | zero =>
    intro i f x w ν hi hf hxx e50 e52 eo hs
    subst hxx
    obtain ⟨f2, rfl⟩ : ∃ f2, f = f2 + 160 := ⟨f - 160, by omega⟩
    have hc : ¬ nI i < ν 57 (nI j).toNatClampNeg := by
      rw [eo 57 (by decide) (by decide), e1]
      exact nI_nlt (by omega) (by omega)
    refine unO ?_
    refine (@bfT _ _ _ _ _ (inS)) ?_
    refine brF hc ?_
    refine e_copy_52_50 (fun μ3 e3 => ?_)
    have es : fsP (tdB F (μ 50) d) n 0 = n := hs.trans (show i = n by omega)
    exact hk _ _ (by unfold tdV; rw [if_pos es]) (back_it hG e50 e52 eo e3)
  | succ m ih =>
    intro i f x w ν hi hf hxx e50 e52 eo hs
    subst hxx
    obtain ⟨f2, rfl⟩ : ∃ f2, f = f2 + 160 := ⟨f - 160, by omega⟩
    have hc : nI i < ν 57 (nI j).toNatClampNeg := by
      rw [eo 57 (by decide) (by decide), e1]
      exact nI_lt (by omega) (by omega)
    have eF : ν 58 ((40 : Int32) * nI j + nI i).toNatClampNeg = F i := by
      rw [cl40 hj (by omega), eo 58 (by decide) (by decide)]
      exact hF i (by omega)
    have hGi : G1 (ν 50) := by rw [e50]; exact G1_it hG i
    have nx : ∀ μ1, μ1 = up1 ν 50 (dropR (ν 50)) → μ1 50 = itR (i + 1) (μ 50) ∧ μ1 52 = cpI 70 (μ 50) (μ 52) ∧ (∀ i, ¬ i = 50 → ¬ i = 52 → μ1 i = μ i) := by
      intro μ1 q
      refine ⟨?_, ?_, fun a p1 p2 => ?_⟩
      · rw [q, up1_at, e50]; rfl
      · rw [q, up1_ne _ _ (by decide)]; exact e52
      · rw [q, up1_ne _ _ p1]; exact eo a p1 p2
    refine unO ?_
    refine (@bfT _ _ _ _ _ (inS)) ?_
    refine brT hc ?_
    refine (@bfT _ _ _ _ _ (in40 hj (show i < 40 by omega))) ?_
    by_cases q1 : F i = -1
    · refine brT (eF.trans q1) ?_
      refine e_drop hGi.g0 (fun μ1 m1 => ?_)
      obtain ⟨a1, a2, a3⟩ := nx μ1 m1
      have hB : tdB F (μ 50) d i = false := by simp [tdB, q1]
      exact ih (i + 1) _ _ _ _ (by omega) (by omega) (nI_succ i).symm a1 a2 a3 (hs.trans (fsP_s hB))
    · refine brF (fun q => q1 (eF.symm.trans q)) ?_
      refine e_dIs hx f3 ?_
      have eR : rD (ν 50) d 3 = rD (itR i (μ 50)) d 3 := by rw [e50]
      by_cases q2 : F i = rD (itR i (μ 50)) d 3
      · refine brT (eF.trans (q2.trans eR.symm)) ?_
        refine e_drop hGi.g0 (fun μ1 m1 => ?_)
        obtain ⟨a1, a2, a3⟩ := nx μ1 m1
        have hB : tdB F (μ 50) d i = false := by simp [tdB, q2]
        exact ih (i + 1) _ _ _ _ (by omega) (by omega) (nI_succ i).symm a1 a2 a3 (hs.trans (fsP_s hB))
      · refine brF (fun q => q2 (eF.symm.trans (q.trans eR))) ?_
        refine e_drop hGi.g0 (fun μ1 m1 => ?_)
        obtain ⟨a1, a2, a3⟩ := nx μ1 m1
        have es : fsP (tdB F (μ 50) d) n 0 = i := hs.trans (fsP_t (by simp [tdB, q1, q2]))
        have fin : ∀ ν3, ν3 = up1 μ1 50 (cpI 70 (μ1 52) (μ1 50)) → k (some (.int 0)) ν3 = X := fun ν3 e3 => hk _ _ (by unfold tdV; rw [es, if_neg (by omega)]) (back_it hG a1 a2 a3 e3)
        refine unO ?_
        refine (@bfT _ _ _ _ _ (inS)) ?_
        refine br (fun h => ?_) (fun h => ?_)
        · exact e_copy_52_50 fin
        · exact e_copy_52_50 fin
set_option maxRecDepth 100000 in
theorem e_isWrongSo {μ : Mem} {k : Rtn} {X : Option Rz} {d : Int32} {F : Nat → Int32} {j n : Nat} (hj : j < 4) (hn : n ≤ 40) (hx : dI d) (hG : G1 (μ 50)) (e1 : μ 57 (nI j).toNatClampNeg = nI n) (hF : ∀ i, i < 40 → μ 58 (40 * j + i) = F i) (hk : ∀ ν w, w = tdV F (μ 50) d n → (∀ i, ¬ i = 52 → ν i = μ i) → k (some (.int w)) ν = X) : S_X5_isWrongSo [.ref 49, .int (nI j), .int d] μ k = X := by
  refine unl (bfT rfl ?_)
  refine e_copy_50_52 (fun μ1 m1 => ?_)
  refine iw_loop (μ := μ) hj hn hx hG e1 hF hk n 0 _ _ _ _ (by omega) (Nat.le_trans (show _ ≤ 3360 by omega) (Nat.le_of_ble_eq_true rfl)) rfl ?_ ?_ ?_ rfl
  · rw [m1, up1_ne _ _ (by decide)]; rfl
  · rw [m1, up1_at]
  · intro i p q
    rw [m1, up1_ne _ _ q]
def cntF (p : Nat → Bool) : Nat → Nat → Nat
  | 0, _ => 0
  | m + 1, i => bif p i then cntF p m (i + 1) + 1 else cntF p m (i + 1)
theorem cntF_t {p : Nat → Bool} {m i : Nat} (h : p i = true) : cntF p (m + 1) i = cntF p m (i + 1) + 1 := by
  show (bif p i then cntF p m (i + 1) + 1 else cntF p m (i + 1)) = _
  rw [h]; rfl
theorem cntF_f {p : Nat → Bool} {m i : Nat} (h : p i = false) : cntF p (m + 1) i = cntF p m (i + 1) := by
  show (bif p i then cntF p m (i + 1) + 1 else cntF p m (i + 1)) = _
  rw [h]; rfl
def lsV (p : Nat → Bool) (m i : Nat) : Int32 := if fsP p m i = i + m then -1 else nI (fsP p m i)
def htB (F r : Nat → Int32) (d : Int32) (n h : Nat) : Bool := decide (fsP (tdB F (upf r 3 (nI h)) d) n 0 = n)
def BackH (μ ν : Mem) : Prop := (∀ i, ¬ i = 49 → ¬ i = 50 → ¬ i = 52 → ν i = μ i) ∧ (ν 49 3 = μ 49 3 ∧ ν 49 8 = μ 49 8) ∧ ν 50 = μ 50
theorem Inv_f49 {μ ν : Mem} (hI : Inv μ) (hh : ∀ i, ¬ i = 49 → ν i = μ i) (h3 : ν 49 3 = μ 49 3) (h8 : ν 49 8 = μ 49 8) : Inv ν :=
  Inv_tape hI (fun i _ _ a _ => hh i a) h3 (I3_same (hh 37 (by decide)) (hh 38 (by decide)) h8 (hh 54 (by decide)) hI.2.2.1)
theorem BackH.b {μ ν : Mem} (h : BackH μ ν) : Back μ (up1 ν 49 (μ 49)) := by
  refine ⟨fun i a b => ?_, fun i _ => ?_⟩
  · by_cases e : i = 49
    · subst e; exact up1_at _ _ _
    · rw [up1_ne _ _ e]; exact h.1 i e a b
  · rw [up1_ne _ _ (by decide), h.2.2]
theorem BackH.inv {μ μ1 ν : Mem} (hI : Inv μ) (hF : Fr 2 μ μ1) (hB : BackH μ1 ν) : Inv ν := by
  refine Inv_f49 (hB.b.inv hI hF) (fun i e => (up1_ne _ _ e).symm) ?_ ?_
  · rw [up1_at]; exact hB.2.1.1
  · rw [up1_at]; exact hB.2.1.2
theorem Inv_tbH {μ ν2 ν3 : Mem} {j : Nat} (hI : Inv μ) (f2 : Fr 2 μ ν2) (hB : BackH (telM ν2 j) ν3) (hj : j < 7) : Inv (fndM ν3 j) := by
  refine Inv_f49 (Inv_tb hI f2 hB.b hj) (fun i e => ?_) ?_ ?_
  · unfold fndM
    by_cases q : i = 53
    · subst q
      rw [up2_at, up2_at, up2_at, up2_at, up1_ne _ _ (show ¬ 53 = 49 by decide)]
    · rw [up2_ne _ _ q, up2_ne _ _ q, up2_ne _ _ q, up2_ne _ _ q, up1_ne _ _ e]
  · unfold fndM
    rw [up2_ne _ _ (by decide), up2_ne _ _ (by decide), up2_ne _ _ (by decide), up2_ne _ _ (by decide), up1_at]
    exact hB.2.1.1
  · unfold fndM
    rw [up2_ne _ _ (by decide), up2_ne _ _ (by decide), up2_ne _ _ (by decide), up2_ne _ _ (by decide), up1_at]
    exact hB.2.1.2
set_option maxRecDepth 100000 in
theorem fh_loop {k : Rtn} {X : Option Rz} {μ : Mem} {d w0 : Int32} {F : Nat → Int32} {j n : Nat} (hj : j < 4) (hn : n ≤ 40) (hx : dI d) (hG : G1 (μ 50)) (e1 : μ 57 (nI j).toNatClampNeg = nI n) (hF : ∀ i, i < 40 → μ 58 (40 * j + i) = F i) (e0 : w0 = μ 50 3) (hk : ∀ ν, BackH μ ν → ν 49 5 = nI (cntF (htB F (μ 50) d n) 60 1) → ν 49 6 = lsV (htB F (μ 50) d n) 60 1 → k none ν = X) :
    ∀ (v m f : Nat) (x u : Int32) (ν : Mem), v + m = 60 → 80 * v + 80 ≤ f → x = nI v → (∀ i, ¬ i = 49 → ¬ i = 50 → ¬ i = 52 → ν i = μ i) → (ν 49 3 = μ 49 3 ∧ ν 49 8 = μ 49 8) → ν 50 = upf (μ 50) 3 u → ν 49 5 = nI (cntF (htB F (μ 50) d n) m (v + 1)) → ν 49 6 = lsV (htB F (μ 50) d n) m (v + 1) → lockO (oILd 4 23) 0 (runK P_X5_findHeights f k) k [some (.ref 49), some (.int (nI j)), some (.int d), some (.int w0), some (.int x)] [] ν = X := by
  intro v
  induction v with
  | zero =>
    intro m f x u ν hi hf hxx hN h49 hV h5 h6
    have em : m = 60 := by omega
    subst hxx; subst em
    obtain ⟨f2, rfl⟩ : ∃ f2, f = f2 + 80 := ⟨f - 80, by omega⟩
    refine unO ?_
    refine hk _ ⟨fun i a b c => (up2_ne _ _ b).trans (hN i a b c), h49, ?_⟩ h5 h6
    rw [e0]
    exact (v_put hV).trans (upf_id _ _)
  | succ v ih =>
    intro m f x u ν hi hf hxx hN h49 hV h5 h6
    subst hxx
    obtain ⟨f2, rfl⟩ : ∃ f2, f = f2 + 80 := ⟨f - 80, by omega⟩
    have hV1 : up2 ν 50 3 (nI (v + 1)) 50 = upf (μ 50) 3 (nI (v + 1)) := v_put hV
    have hN1 : ∀ i, ¬ i = 49 → ¬ i = 50 → ¬ i = 52 → up2 ν 50 3 (nI (v + 1)) i = μ i := fun i a b c => (up2_ne _ _ b).trans (hN i a b c)
    refine unO ?_
    refine brT (show (0 : Int32) < nI (v + 1) from nI_lt (a := 0) (b := v + 1) (by omega) (by omega)) ?_
    refine e_isWrongSo (μ := up2 ν 50 3 (nI (v + 1))) (F := F) hj hn hx (by rw [hV1]; exact G1_h hG _) (by rw [hN1 57 (by decide) (by decide) (by decide)]; exact e1) (fun i hi => by rw [hN1 58 (by decide) (by decide) (by decide)]; exact hF i hi) (fun ν2 w ew b2 => ?_)
    rw [hV1] at ew
    have b49 : ν2 49 = ν 49 := (b2 49 (by decide)).trans (up2_ne _ _ (by decide))
    have hV2 : ν2 50 = upf (μ 50) 3 (nI (v + 1)) := (b2 50 (by decide)).trans hV1
    have hN2 : ∀ i, ¬ i = 49 → ¬ i = 50 → ¬ i = 52 → ν2 i = μ i := fun i a b c => (b2 i c).trans (hN1 i a b c)
    have ex : nI (v + 1) + -1 = nI v := (pr1 (v + 1)).trans (decI v)
    cases q : htB F (μ 50) d n (v + 1) with
    | true =>
      have ew1 : w = 1 := by rw [ew]; unfold tdV; exact if_pos (of_decide_eq_true q)
      subst ew1
      refine ih (m + 1) _ _ _ _ (by omega) (by omega) ex ?_ ?_ hV2 ?_ ?_
      · exact fun i a b c => (up2_ne _ _ a).trans ((up2_ne _ _ a).trans (hN2 i a b c))
      · refine ⟨?_, ?_⟩
        · show ν2 49 3 = μ 49 3
          rw [b49]; exact h49.1
        · show ν2 49 8 = μ 49 8
          rw [b49]; exact h49.2
      · show ν2 49 5 + 1 = _
        rw [cntF_t q, nI_succ, ← h5, b49]
      · show nI (v + 1) = _
        unfold lsV
        rw [fsP_t q, if_neg (by omega)]
    | false =>
      have ew1 : w = 0 := by rw [ew]; unfold tdV; exact if_neg (of_decide_eq_false q)
      subst ew1
      refine ih (m + 1) _ _ _ _ (by omega) (by omega) ex hN2 ?_ hV2 ?_ ?_
      · rw [b49]; exact h49
      · rw [cntF_f q, b49]; exact h5
      · rw [b49, h6]
        unfold lsV
        rw [fsP_s q, show v + 1 + (m + 1) = v + 1 + 1 + m by omega]
set_option maxRecDepth 100000 in
theorem e_findHeights {μ : Mem} {k : Rtn} {X : Option Rz} {d : Int32} {F : Nat → Int32} {j n : Nat} (hj : j < 4) (hn : n ≤ 40) (hx : dI d) (hG : G1 (μ 50)) (e1 : μ 57 (nI j).toNatClampNeg = nI n) (hF : ∀ i, i < 40 → μ 58 (40 * j + i) = F i) (hk : ∀ ν, BackH μ ν → ν 49 5 = nI (cntF (htB F (μ 50) d n) 60 1) → ν 49 6 = lsV (htB F (μ 50) d n) 60 1 → k none ν = X) : S_X5_findHeights [.ref 49, .int (nI j), .int d] μ k = X := by
  refine unl (bfT rfl ?_)
  refine fh_loop (μ := μ) (w0 := μ 50 3) hj hn hx hG e1 hF rfl hk 60 0 _ _ (μ 50 3) _ (by omega) (Nat.le_of_ble_eq_true rfl) rfl (fun i a _ _ => (up2_ne _ _ a).trans (up2_ne _ _ a)) ⟨rfl, rfl⟩ (upf_id _ _).symm rfl ?_
  show (-1 : Int32) = _
  unfold lsV
  exact (if_pos rfl).symm
set_option maxRecDepth 100000 in
theorem fitsX_loop {k : Rtn} {X : Option Rz} {μ : Mem} {d g : Int32} {r F : Nat → Int32} {j n : Nat} (hj : j < 4) (hn : n ≤ 40) (hd : hasR r d) (hG : G1 r) (hR0 : Rep μ 1 r) (e1 : μ (40 + (nI j).toNatClampNeg) 1 = nI n) (hF0 : ∀ i, i < 40 → μ (rfOf (40 + (nI j).toNatClampNeg) 2) i = F i) (hk : ∀ ν, Fr 2 μ ν → k (some (.int (nI (cntF (htB F r d n) 60 1)))) ν = X) :
    ∀ (m i f a : Nat) (x c : Int32) (ν : Mem), i + m = 61 → 80 * m + 80 ≤ f → x = nI i → c = nI a → a + cntF (htB F r d n) m i = cntF (htB F r d n) 60 1 → Fr 2 μ ν → lockO (oILd 5 25) 0 (runK P_X4_fits f k) k [some (.ref 0), some (.int (nI j)), some (.int d), some (.int g), some (.int c), some (.int x)] [] ν = X := by
  have inS : inB (nI j) 4 = true := inB_nI hj (by decide)
  intro m
  induction m with
  | zero =>
    intro i f a x c ν hi hf hxx hc ha hF
    have ei : i = 61 := by omega
    subst hxx; subst ei; subst hc
    obtain ⟨f2, rfl⟩ : ∃ f2, f = f2 + 80 := ⟨f - 80, by omega⟩
    refine unO ?_
    rw [← ha] at hk
    exact hk _ hF
  | succ m ih =>
    intro i f a x c ν hi hf hxx hc ha hF
    subst hxx; subst hc
    obtain ⟨f2, rfl⟩ : ∃ f2, f = f2 + 80 := ⟨f - 80, by omega⟩
    have l6 : ¬ 60 < nI i := nI_nlt (a := 60) (b := i) (by omega) (by decide)
    refine unO ?_
    refine brF l6 ?_
    refine x_bec_21 (rep21 hR0 hG hF) hG (fun ν1 r1 f1 => ?_)
    have hd2 : hasR (upf r 3 (nI i)) d := hd
    have f3 : Fr 2 μ (up2 ν1 2 0 (nI i)) := hF.tr (f1.tr (Fr.up2 (Or.inl rfl)))
    refine (@bfT _ _ _ _ _ (inS)) ?_
    refine x_tia (F := F) hj hn hd2 (G1_h hG _) (rep_own (k := 0) ⟨by decide, by decide⟩ r1 (by decide)) ((congrFun (sh2 f3 _) 1).trans e1) (fun i hi => (congrFun (shN f3 hj) i).trans (hF0 i hi)) (fun ν2 w ew f2 => ?_)
    have fA : Fr 2 μ ν2 := f3.tr f2
    cases q : htB F r d n i with
    | true =>
      have ew1 : w = 1 := by rw [ew]; unfold tdV; exact if_pos (of_decide_eq_true q)
      subst ew1
      exact ih (i + 1) _ (a + 1) _ _ _ (by omega) (by omega) (nI_succ i).symm (nI_succ a).symm (by rw [← ha, cntF_t q]; omega) fA
    | false =>
      have ew1 : w = 0 := by rw [ew]; unfold tdV; exact if_neg (of_decide_eq_false q)
      subst ew1
      exact ih (i + 1) _ a _ _ _ (by omega) (by omega) (nI_succ i).symm rfl (by rw [← ha, cntF_f q]) fA
set_option maxRecDepth 100000 in
theorem height2X_loop {k : Rtn} {X : Option Rz} {μ : Mem} {d g : Int32} {r F : Nat → Int32} {j n : Nat} (hj : j < 4) (hn : n ≤ 40) (hd : hasR r d) (hG : G1 r) (hR0 : Rep μ 1 r) (e1 : μ (40 + (nI j).toNatClampNeg) 1 = nI n) (hF0 : ∀ i, i < 40 → μ (rfOf (40 + (nI j).toNatClampNeg) 2) i = F i) (hk : ∀ ν, Fr 2 μ ν → fsP (htB F r d n) 60 1 ≤ 60 → k (some (.int (nI (fsP (htB F r d n) 60 1)))) ν = X) (hk2 : ∀ ν, Fr 2 μ ν → fsP (htB F r d n) 60 1 = 61 → k (some (.int (-1000004))) (telM ν 3) = X) :
    ∀ (m i f : Nat) (x : Int32) (ν : Mem), i + m = 61 → 80 * m + 80 ≤ f → x = nI i → Fr 2 μ ν → fsP (htB F r d n) 60 1 = fsP (htB F r d n) m i → lockO (oILd 4 22) 0 (runK P_X4_height f k) k [some (.ref 0), some (.int (nI j)), some (.int d), some (.int g), some (.int x)] [] ν = X := by
  have inS : inB (nI j) 4 = true := inB_nI hj (by decide)
  intro m
  induction m with
  | zero =>
    intro i f x ν hi hf hxx hF hs
    have ei : i = 61 := by omega
    subst hxx; subst ei
    obtain ⟨f2, rfl⟩ : ∃ f2, f = f2 + 80 := ⟨f - 80, by omega⟩
    refine unO ?_
    refine x_tell3 ?_
    exact hk2 _ hF hs
  | succ m ih =>
    intro i f x ν hi hf hxx hF hs
    subst hxx
    obtain ⟨f2, rfl⟩ : ∃ f2, f = f2 + 80 := ⟨f - 80, by omega⟩
    have l6 : ¬ 60 < nI i := nI_nlt (a := 60) (b := i) (by omega) (by decide)
    refine unO ?_
    refine brF l6 ?_
    refine x_bec_21 (rep21 hR0 hG hF) hG (fun ν1 r1 f1 => ?_)
    have hd2 : hasR (upf r 3 (nI i)) d := hd
    have f3 : Fr 2 μ (up2 ν1 2 0 (nI i)) := hF.tr (f1.tr (Fr.up2 (Or.inl rfl)))
    refine (@bfT _ _ _ _ _ (inS)) ?_
    refine x_tia (F := F) hj hn hd2 (G1_h hG _) (rep_own (k := 0) ⟨by decide, by decide⟩ r1 (by decide)) ((congrFun (sh2 f3 _) 1).trans e1) (fun i hi => (congrFun (shN f3 hj) i).trans (hF0 i hi)) (fun ν2 w ew f2 => ?_)
    have fA : Fr 2 μ ν2 := f3.tr f2
    cases q : htB F r d n i with
    | true =>
      have ew1 : w = 1 := by rw [ew]; unfold tdV; exact if_pos (of_decide_eq_true q)
      subst ew1
      have es : fsP (htB F r d n) 60 1 = i := hs.trans (fsP_t q)
      rw [es] at hk
      exact hk _ fA (by omega)
    | false =>
      have ew1 : w = 0 := by rw [ew]; unfold tdV; exact if_neg (of_decide_eq_false q)
      subst ew1
      exact ih (i + 1) _ _ _ (by omega) (by omega) (nI_succ i).symm fA (hs.trans (fsP_s q))
def ktB (F r : Nat → Int32) (e n h : Nat) : Bool := decide (fsP (tdB F (upf r (22 + 6 * e) (nI h)) (nI e)) n 0 = n)
theorem setR_t {p : Nat → Bool} {i : Nat} (h : p i = true) : setR p i ||| ((1 : Int32) <<< (nI i &&& 31)) = setR p (i + 1) := by
  show _ = (bif p i then _ else _)
  rw [h]; rfl
theorem setR_f {p : Nat → Bool} {i : Nat} (h : p i = false) : setR p i = setR p (i + 1) := by
  show _ = (bif p i then _ else _)
  rw [h]; rfl
theorem G1_kd {r : Nat → Int32} (hG : G1 r) {e i : Nat} (he : e < (r 1).toNatClampNeg) (hi : i ≤ 6) : G1 (upf r (22 + 6 * e) (nI i)) := G1_put (g := 0) hG he (by decide) (fun _ => ⟨i, hi, rfl⟩) (nf rfl) (nf rfl) (nf rfl) (nf rfl)
set_option maxRecDepth 100000 in
theorem kindsX_loop {k : Rtn} {X : Option Rz} {μ : Mem} {g : Int32} {r F : Nat → Int32} {j n e : Nat} (hj : j < 4) (hn : n ≤ 40) (he : e < (r 1).toNatClampNeg) (hG : G1 r) (hR0 : Rep μ 1 r) (e1 : μ (40 + (nI j).toNatClampNeg) 1 = nI n) (hF0 : ∀ i, i < 40 → μ (rfOf (40 + (nI j).toNatClampNeg) 2) i = F i) (hk : ∀ ν, Fr 2 μ ν → k (some (.int (setR (ktB F r e n) 7))) ν = X) :
    ∀ (m i f : Nat) (x c : Int32) (ν : Mem), i + m = 7 → 80 * m + 80 ≤ f → x = nI i → c = setR (ktB F r e n) i → Fr 2 μ ν → lockO (oILd 5 25) 0 (runK P_X4_kinds f k) k [some (.ref 0), some (.int (nI j)), some (.int (nI e)), some (.int g), some (.int c), some (.int x)] [] ν = X := by
  have inS : inB (nI j) 4 = true := inB_nI hj (by decide)
  have h8 := hG.n8
  have hx : dI (nI e) := ⟨e, by omega, rfl⟩
  intro m
  induction m with
  | zero =>
    intro i f x c ν hi hf hxx hc hF
    have ei : i = 7 := by omega
    subst hxx; subst ei; subst hc
    obtain ⟨f2, rfl⟩ : ∃ f2, f = f2 + 80 := ⟨f - 80, by omega⟩
    refine unO ?_
    exact hk _ hF
  | succ m ih =>
    intro i f x c ν hi hf hxx hc hF
    subst hxx; subst hc
    obtain ⟨f2, rfl⟩ : ∃ f2, f = f2 + 80 := ⟨f - 80, by omega⟩
    refine unO ?_
    refine brF (nI_nlt (a := 6) (b := i) (by omega) (by decide)) ?_
    refine x_bec_21 (rep21 hR0 hG hF) hG (fun ν1 r1 f1 => ?_)
    refine (@bfT _ _ _ _ _ (in8 hx)) ?_
    refine (@bfT _ _ _ _ _ (kdq_2 hx)) ?_
    have ec : (nI e).toNatClampNeg = e := nI_cl (by omega)
    have hq : inC 2 (21 + (nI e).toNatClampNeg) := by rw [ec]; exact inC_d (c := 2) (by omega)
    have rq : Rep (up2 ν1 (21 + (nI e).toNatClampNeg) 0 (nI i)) 2 (upf r (22 + 6 * e) (nI i)) := by rw [ec]; exact rep_put (c := 2) (g := 0) ⟨by decide, by decide⟩ r1 he (by decide)
    have f3 : Fr 2 μ (up2 ν1 (21 + (nI e).toNatClampNeg) 0 (nI i)) := hF.tr (f1.tr (Fr.up2 hq))
    refine (@bfT _ _ _ _ _ (inS)) ?_
    refine x_tia (F := F) hj hn (has_up (by omega) ⟨e, he, rfl⟩) (G1_kd hG he (by omega)) rq ((congrFun (sh2 f3 _) 1).trans e1) (fun i hi => (congrFun (shN f3 hj) i).trans (hF0 i hi)) (fun ν2 w ew f2 => ?_)
    have fA : Fr 2 μ ν2 := f3.tr f2
    cases q : ktB F r e n i with
    | true =>
      have ew1 : w = 1 := by rw [ew]; unfold tdV; exact if_pos (of_decide_eq_true q)
      subst ew1
      exact ih (i + 1) _ _ _ _ (by omega) (by omega) (nI_succ i).symm (setR_t q) fA
    | false =>
      have ew1 : w = 0 := by rw [ew]; unfold tdV; exact if_neg (of_decide_eq_false q)
      subst ew1
      exact ih (i + 1) _ _ _ _ (by omega) (by omega) (nI_succ i).symm (setR_f q) fA
set_option maxRecDepth 100000 in
theorem kindsM_loop {k : Rtn} {X : Option Rz} {μ : Mem} {g w0 at0 : Int32} {F : Nat → Int32} {j n e : Nat} (hj : j < 4) (hn : n ≤ 40) (he : e < (μ 50 1).toNatClampNeg) (hG : G1 (μ 50)) (e1 : μ 57 (nI j).toNatClampNeg = nI n) (hF : ∀ i, i < 40 → μ 58 (40 * j + i) = F i) (ea : at0 = (22 : Int32) + 6 * nI e + 0) (e0 : w0 = μ 50 (22 + 6 * e)) (hk : ∀ ν, Back μ ν → k (some (.int (setR (ktB F (μ 50) e n) 7))) ν = X) :
    ∀ (m i f : Nat) (x c u : Int32) (ν : Mem), i + m = 7 → 80 * m + 80 ≤ f → x = nI i → c = setR (ktB F (μ 50) e n) i → (∀ j, ¬ j = 50 → ¬ j = 52 → ν j = μ j) → ν 50 = upf (μ 50) (22 + 6 * e) u → lockO (oILd 7 45) 0 (runK P_X5_kinds f k) k [some (.ref 49), some (.int (nI j)), some (.int (nI e)), some (.int g), some (.int at0), some (.int w0), some (.int c), some (.int x)] [] ν = X := by
  have h8 := hG.n8
  have hx : dI (nI e) := ⟨e, by omega, rfl⟩
  have ha : inB at0 70 = true := by rw [ea]; exact inD (e := e) (g := 0) (by omega) (by decide)
  have ei : at0.toNatClampNeg = 22 + 6 * e := by rw [ea]; exact ixD_cl (d := e) (g := 0) (by omega) (by decide)
  intro m
  induction m with
  | zero =>
    intro i f x c u ν hi hf hxx hc hN hV
    have e9 : i = 7 := by omega
    subst hxx; subst e9; subst hc
    obtain ⟨f2, rfl⟩ : ∃ f2, f = f2 + 80 := ⟨f - 80, by omega⟩
    refine unO ?_
    refine (@bfT _ _ _ _ _ (ha)) ?_
    exact hk _ (nb_back (a := 22 + 6 * e) (nb_put hN) (by rw [← e0]; exact v_putI ei hV))
  | succ m ih =>
    intro i f x c u ν hi hf hxx hc hN hV
    subst hxx; subst hc
    obtain ⟨f2, rfl⟩ : ∃ f2, f = f2 + 80 := ⟨f - 80, by omega⟩
    refine unO ?_
    refine brF (nI_nlt (a := 6) (b := i) (by omega) (by decide)) ?_
    refine (@bfT _ _ _ _ _ (ha)) ?_
    have hV1 : up2 ν 50 at0.toNatClampNeg (nI i) 50 = upf (μ 50) (22 + 6 * e) (nI i) := v_putI ei hV
    have hN1 : ∀ j, ¬ j = 50 → ¬ j = 52 → up2 ν 50 at0.toNatClampNeg (nI i) j = μ j := nb_put hN
    refine e_isWrongSo (μ := up2 ν 50 at0.toNatClampNeg (nI i)) (F := F) hj hn hx (by rw [hV1]; exact G1_kd hG he (by omega)) (by rw [hN1 57 (by decide) (by decide)]; exact e1) (fun i hi => by rw [hN1 58 (by decide) (by decide)]; exact hF i hi) (fun ν2 w ew b2 => ?_)
    rw [hV1] at ew
    have hV2 : ν2 50 = upf (μ 50) (22 + 6 * e) (nI i) := (b2 50 (by decide)).trans hV1
    cases q : ktB F (μ 50) e n i with
    | true =>
      have ew1 : w = 1 := by rw [ew]; unfold tdV; exact if_pos (of_decide_eq_true q)
      subst ew1
      exact ih (i + 1) _ _ _ (nI i) _ (by omega) (by omega) (nI_succ i).symm (setR_t q) (nb_bk hN1 b2) hV2
    | false =>
      have ew1 : w = 0 := by rw [ew]; unfold tdV; exact if_neg (of_decide_eq_false q)
      subst ew1
      exact ih (i + 1) _ _ _ (nI i) _ (by omega) (by omega) (nI_succ i).symm ((or0 _).trans (setR_f q)) (nb_bk hN1 b2) hV2
set_option maxRecDepth 100000 in
theorem T_fits {μ : Mem} {k1 : Rtn} {K : Int32 → Rtn} {X : Option Rz} (hI : Inv μ) {s d : Int32} (hm : ∀ z μ1, k1 (some (.int z)) μ1 = S_X5_fits [.ref 49, .int s, .int d] μ1 (K z)) (hK : ∀ v w μ2, v = w → Inv μ2 → K v (some (.int w)) μ2 = X) : S_X4_fits [.ref 0, .int s, .int d] μ k1 = X := by
  rcases has_cases hI d with ⟨hd, g1, g2, g3⟩ | g1 | ⟨g1, g2, g3⟩
  rotate_left
  · by_cases s1 : s < 0
    · refine unl (bfT rfl ?_)
      repeat' (first | refine brT (by assumption) ?_ | refine brF (by assumption) ?_ | refine br (fun q => ?_) (fun q => ?_))
      all_goals (refine x_tell0 ?_; refine (hm _ _).trans ?_; refine unl (bfT rfl ?_); (repeat' (first | refine brF c10 ?_ | refine brT c00 ?_ | refine brF c01 ?_ | refine brT c11 ?_ | refine brT (by assumption) ?_ | refine brF (by assumption) ?_)); refine e_find0 ?_; exact hK _ _ _ rfl (Inv_tell hI (by decide)))
    by_cases s2 : 3 < s
    · refine unl (bfT rfl ?_)
      repeat' (first | refine brT (by assumption) ?_ | refine brF (by assumption) ?_ | refine br (fun q => ?_) (fun q => ?_))
      all_goals (refine x_tell0 ?_; refine (hm _ _).trans ?_; refine unl (bfT rfl ?_); (repeat' (first | refine brF c10 ?_ | refine brT c00 ?_ | refine brF c01 ?_ | refine brT c11 ?_ | refine brT (by assumption) ?_ | refine brF (by assumption) ?_)); refine e_find0 ?_; exact hK _ _ _ rfl (Inv_tell hI (by decide)))
    obtain ⟨j, hj3, rfl⟩ := nlt_VB (n := 3) (x := s) (by decide) s1 s2
    have hj : j < 4 := by omega
    have inS : inB (nI j) 4 = true := inB_nI hj (by decide)
    obtain ⟨a1, a2, ⟨n, hn, a4⟩, a5⟩ := shF hI.2.2.2.1 hj
    by_cases w0 : μ 56 (nI j).toNatClampNeg = 0
    · have w1 : μ (40 + (nI j).toNatClampNeg) 0 = 0 := a1.trans w0
      refine unl (bfT rfl ?_)
      repeat' (first | refine brF c10 ?_ | refine brT c00 ?_ | refine brF c01 ?_ | refine brT c11 ?_ | refine brT (by assumption) ?_ | refine brF (by assumption) ?_)
      refine (@bfT _ _ _ _ _ (inS)) ?_
      refine (@bfT _ _ _ _ _ (kdS hj)) ?_
      refine (@bfT _ _ _ _ _ (kdS hj)) ?_
      repeat' (first | refine brF c10 ?_ | refine brT c00 ?_ | refine brF c01 ?_ | refine brT c11 ?_ | refine brT (by assumption) ?_ | refine brF (by assumption) ?_)
      refine x_tell5 ?_
      refine (hm _ _).trans ?_
      refine unl (bfT rfl ?_)
      repeat' (first | refine brF c10 ?_ | refine brT c00 ?_ | refine brF c01 ?_ | refine brT c11 ?_ | refine brT (by assumption) ?_ | refine brF (by assumption) ?_)
      refine (@bfT _ _ _ _ _ (inS)) ?_
      refine brT w0 ?_
      refine e_find5 ?_
      exact hK _ _ _ rfl (Inv_tell hI (by decide))
    have w1 : ¬ μ (40 + (nI j).toNatClampNeg) 0 = 0 := fun q => w0 (a1.symm.trans q)
    refine unl (bfT rfl ?_)
    repeat' (first | refine brF c10 ?_ | refine brT c00 ?_ | refine brF c01 ?_ | refine brT c11 ?_ | refine brT (by assumption) ?_ | refine brF (by assumption) ?_)
    refine (@bfT _ _ _ _ _ (inS)) ?_
    refine (@bfT _ _ _ _ _ (kdS hj)) ?_
    refine (@bfT _ _ _ _ _ (kdS hj)) ?_
    repeat' (first | refine brF c10 ?_ | refine brT c00 ?_ | refine brF c01 ?_ | refine brT c11 ?_ | refine brT (by assumption) ?_ | refine brF (by assumption) ?_)
    refine x_tell0 ?_
    refine (hm _ _).trans ?_
    refine unl (bfT rfl ?_)
    repeat' (first | refine brF c10 ?_ | refine brT c00 ?_ | refine brF c01 ?_ | refine brT c11 ?_ | refine brT (by assumption) ?_ | refine brF (by assumption) ?_)
    refine (@bfT _ _ _ _ _ (inS)) ?_
    refine brF w0 ?_
    refine e_find0 ?_
    exact hK _ _ _ rfl (Inv_tell hI (by decide))
  · by_cases s1 : s < 0
    · refine unl (bfT rfl ?_)
      repeat' (first | refine brT (by assumption) ?_ | refine brF (by assumption) ?_ | refine br (fun q => ?_) (fun q => ?_))
      all_goals (refine x_tell0 ?_; refine (hm _ _).trans ?_; refine unl (bfT rfl ?_); (repeat' (first | refine brF c10 ?_ | refine brT c00 ?_ | refine brF c01 ?_ | refine brT c11 ?_ | refine brT (by assumption) ?_ | refine brF (by assumption) ?_)); refine e_find0 ?_; exact hK _ _ _ rfl (Inv_tell hI (by decide)))
    by_cases s2 : 3 < s
    · refine unl (bfT rfl ?_)
      repeat' (first | refine brT (by assumption) ?_ | refine brF (by assumption) ?_ | refine br (fun q => ?_) (fun q => ?_))
      all_goals (refine x_tell0 ?_; refine (hm _ _).trans ?_; refine unl (bfT rfl ?_); (repeat' (first | refine brF c10 ?_ | refine brT c00 ?_ | refine brF c01 ?_ | refine brT c11 ?_ | refine brT (by assumption) ?_ | refine brF (by assumption) ?_)); refine e_find0 ?_; exact hK _ _ _ rfl (Inv_tell hI (by decide)))
    obtain ⟨j, hj3, rfl⟩ := nlt_VB (n := 3) (x := s) (by decide) s1 s2
    have hj : j < 4 := by omega
    have inS : inB (nI j) 4 = true := inB_nI hj (by decide)
    obtain ⟨a1, a2, ⟨n, hn, a4⟩, a5⟩ := shF hI.2.2.2.1 hj
    by_cases w0 : μ 56 (nI j).toNatClampNeg = 0
    · have w1 : μ (40 + (nI j).toNatClampNeg) 0 = 0 := a1.trans w0
      refine unl (bfT rfl ?_)
      repeat' (first | refine brF c10 ?_ | refine brT c00 ?_ | refine brF c01 ?_ | refine brT c11 ?_ | refine brT (by assumption) ?_ | refine brF (by assumption) ?_)
      refine (@bfT _ _ _ _ _ (inS)) ?_
      refine (@bfT _ _ _ _ _ (kdS hj)) ?_
      refine (@bfT _ _ _ _ _ (kdS hj)) ?_
      repeat' (first | refine brF c10 ?_ | refine brT c00 ?_ | refine brF c01 ?_ | refine brT c11 ?_ | refine brT (by assumption) ?_ | refine brF (by assumption) ?_)
      refine x_tell5 ?_
      refine (hm _ _).trans ?_
      refine unl (bfT rfl ?_)
      repeat' (first | refine brF c10 ?_ | refine brT c00 ?_ | refine brF c01 ?_ | refine brT c11 ?_ | refine brT (by assumption) ?_ | refine brF (by assumption) ?_)
      refine (@bfT _ _ _ _ _ (inS)) ?_
      refine brT w0 ?_
      refine e_find5 ?_
      exact hK _ _ _ rfl (Inv_tell hI (by decide))
    have w1 : ¬ μ (40 + (nI j).toNatClampNeg) 0 = 0 := fun q => w0 (a1.symm.trans q)
    refine unl (bfT rfl ?_)
    repeat' (first | refine brF c10 ?_ | refine brT c00 ?_ | refine brF c01 ?_ | refine brT c11 ?_ | refine brT (by assumption) ?_ | refine brF (by assumption) ?_)
    refine (@bfT _ _ _ _ _ (inS)) ?_
    refine (@bfT _ _ _ _ _ (kdS hj)) ?_
    refine (@bfT _ _ _ _ _ (kdS hj)) ?_
    repeat' (first | refine brF c10 ?_ | refine brT c00 ?_ | refine brF c01 ?_ | refine brT c11 ?_ | refine brT (by assumption) ?_ | refine brF (by assumption) ?_)
    refine x_tell0 ?_
    refine (hm _ _).trans ?_
    refine unl (bfT rfl ?_)
    repeat' (first | refine brF c10 ?_ | refine brT c00 ?_ | refine brF c01 ?_ | refine brT c11 ?_ | refine brT (by assumption) ?_ | refine brF (by assumption) ?_)
    refine (@bfT _ _ _ _ _ (inS)) ?_
    refine brF w0 ?_
    refine e_find0 ?_
    exact hK _ _ _ rfl (Inv_tell hI (by decide))
  by_cases s1 : s < 0
  · refine unl (bfT rfl ?_)
    repeat' (first | refine brT (by assumption) ?_ | refine brF (by assumption) ?_ | refine br (fun q => ?_) (fun q => ?_))
    all_goals (refine x_tell0 ?_; refine (hm _ _).trans ?_; refine unl (bfT rfl ?_); (repeat' (first | refine brF c10 ?_ | refine brT c00 ?_ | refine brF c01 ?_ | refine brT c11 ?_ | refine brT (by assumption) ?_ | refine brF (by assumption) ?_)); refine e_find0 ?_; exact hK _ _ _ rfl (Inv_tell hI (by decide)))
  by_cases s2 : 3 < s
  · refine unl (bfT rfl ?_)
    repeat' (first | refine brT (by assumption) ?_ | refine brF (by assumption) ?_ | refine br (fun q => ?_) (fun q => ?_))
    all_goals (refine x_tell0 ?_; refine (hm _ _).trans ?_; refine unl (bfT rfl ?_); (repeat' (first | refine brF c10 ?_ | refine brT c00 ?_ | refine brF c01 ?_ | refine brT c11 ?_ | refine brT (by assumption) ?_ | refine brF (by assumption) ?_)); refine e_find0 ?_; exact hK _ _ _ rfl (Inv_tell hI (by decide)))
  obtain ⟨j, hj3, rfl⟩ := nlt_VB (n := 3) (x := s) (by decide) s1 s2
  have hj : j < 4 := by omega
  have inS : inB (nI j) 4 = true := inB_nI hj (by decide)
  obtain ⟨a1, a2, ⟨n, hn, a4⟩, a5⟩ := shF hI.2.2.2.1 hj
  by_cases w0 : μ 56 (nI j).toNatClampNeg = 0
  · have w1 : μ (40 + (nI j).toNatClampNeg) 0 = 0 := a1.trans w0
    refine unl (bfT rfl ?_)
    repeat' (first | refine brF c10 ?_ | refine brT c00 ?_ | refine brF c01 ?_ | refine brT c11 ?_ | refine brT (by assumption) ?_ | refine brF (by assumption) ?_)
    refine (@bfT _ _ _ _ _ (inS)) ?_
    refine (@bfT _ _ _ _ _ (kdS hj)) ?_
    refine (@bfT _ _ _ _ _ (kdS hj)) ?_
    repeat' (first | refine brF c10 ?_ | refine brT c00 ?_ | refine brF c01 ?_ | refine brT c11 ?_ | refine brT (by assumption) ?_ | refine brF (by assumption) ?_)
    refine x_tell5 ?_
    refine (hm _ _).trans ?_
    refine unl (bfT rfl ?_)
    repeat' (first | refine brF c10 ?_ | refine brT c00 ?_ | refine brF c01 ?_ | refine brT c11 ?_ | refine brT (by assumption) ?_ | refine brF (by assumption) ?_)
    refine (@bfT _ _ _ _ _ (inS)) ?_
    refine brT w0 ?_
    refine e_find5 ?_
    exact hK _ _ _ rfl (Inv_tell hI (by decide))
  have w1 : ¬ μ (40 + (nI j).toNatClampNeg) 0 = 0 := fun q => w0 (a1.symm.trans q)
  refine unl (bfT rfl ?_)
  repeat' (first | refine brF c10 ?_ | refine brT c00 ?_ | refine brF c01 ?_ | refine brT c11 ?_ | refine brT (by assumption) ?_ | refine brF (by assumption) ?_)
  refine (@bfT _ _ _ _ _ (inS)) ?_
  refine (@bfT _ _ _ _ _ (kdS hj)) ?_
  refine (@bfT _ _ _ _ _ (kdS hj)) ?_
  repeat' (first | refine brF c10 ?_ | refine brT c00 ?_ | refine brF c01 ?_ | refine brT c11 ?_ | refine brT (by assumption) ?_ | refine brF (by assumption) ?_)
  refine fitsX_loop (F := fun i => μ 58 (40 * j + i)) hj hn hd hI.1.2 hI.1.1 (a2.trans a4) a5 (fun ν f2 => ?_) 60 1 _ 0 _ _ _ (by omega) (Nat.le_of_ble_eq_true rfl) rfl rfl (Nat.zero_add _) Fr.rf
  have e9 : ν 50 = μ 50 := f2 50 (by unfold inC; omega)
  have e56 : ν 56 = μ 56 := f2 56 (by unfold inC; omega)
  have e57 : ν 57 = μ 57 := f2 57 (by unfold inC; omega)
  have e58 : ν 58 = μ 58 := f2 58 (by unfold inC; omega)
  have g4 : ¬ ν 50 1 - 1 < d := by rw [e9]; exact g3
  have w2 : ¬ ν 56 (nI j).toNatClampNeg = 0 := by rw [e56]; exact w0
  have b57 : ν 57 (nI j).toNatClampNeg = nI n := by rw [e57]; exact a4
  have b58 : ∀ i, i < 40 → ν 58 (40 * j + i) = μ 58 (40 * j + i) := fun i _ => by rw [e58]
  have gG : G1 (ν 50) := by rw [e9]; exact hI.1.2
  refine (hm _ _).trans ?_
  refine unl (bfT rfl ?_)
  repeat' (first | refine brF c10 ?_ | refine brT c00 ?_ | refine brF c01 ?_ | refine brT c11 ?_ | refine brT (by assumption) ?_ | refine brF (by assumption) ?_)
  refine (@bfT _ _ _ _ _ (inS)) ?_
  refine brF w2 ?_
  refine e_findHeights (F := fun i => μ 58 (40 * j + i)) hj hn (hd.dI hI.1.2) gG b57 b58 (fun ν3 hB q5 q6 => ?_)
  rw [e9] at q5
  exact hK _ _ _ q5.symm (hB.inv hI f2)
set_option maxRecDepth 100000 in
theorem T_height {μ : Mem} {k1 : Rtn} {K : Int32 → Rtn} {X : Option Rz} (hI : Inv μ) {s d : Int32} (hm : ∀ z μ1, k1 (some (.int z)) μ1 = S_X5_height [.ref 49, .int s, .int d] μ1 (K z)) (hK : ∀ v w μ2, v = w → Inv μ2 → K v (some (.int w)) μ2 = X) : S_X4_height [.ref 0, .int s, .int d] μ k1 = X := by
  rcases has_cases hI d with ⟨hd, g1, g2, g3⟩ | g1 | ⟨g1, g2, g3⟩
  rotate_left
  · by_cases s1 : s < 0
    · refine unl (bfT rfl ?_)
      repeat' (first | refine brT (by assumption) ?_ | refine brF (by assumption) ?_ | refine br (fun q => ?_) (fun q => ?_))
      all_goals (refine x_tell0 ?_; refine (hm _ _).trans ?_; refine unl (bfT rfl ?_); (repeat' (first | refine brF c10 ?_ | refine brT c00 ?_ | refine brF c01 ?_ | refine brT c11 ?_ | refine brT (by assumption) ?_ | refine brF (by assumption) ?_)); refine e_find0 ?_; exact hK _ _ _ rfl (Inv_tell hI (by decide)))
    by_cases s2 : 3 < s
    · refine unl (bfT rfl ?_)
      repeat' (first | refine brT (by assumption) ?_ | refine brF (by assumption) ?_ | refine br (fun q => ?_) (fun q => ?_))
      all_goals (refine x_tell0 ?_; refine (hm _ _).trans ?_; refine unl (bfT rfl ?_); (repeat' (first | refine brF c10 ?_ | refine brT c00 ?_ | refine brF c01 ?_ | refine brT c11 ?_ | refine brT (by assumption) ?_ | refine brF (by assumption) ?_)); refine e_find0 ?_; exact hK _ _ _ rfl (Inv_tell hI (by decide)))
    obtain ⟨j, hj3, rfl⟩ := nlt_VB (n := 3) (x := s) (by decide) s1 s2
    have hj : j < 4 := by omega
    have inS : inB (nI j) 4 = true := inB_nI hj (by decide)
    obtain ⟨a1, a2, ⟨n, hn, a4⟩, a5⟩ := shF hI.2.2.2.1 hj
    by_cases w0 : μ 56 (nI j).toNatClampNeg = 0
    · have w1 : μ (40 + (nI j).toNatClampNeg) 0 = 0 := a1.trans w0
      refine unl (bfT rfl ?_)
      repeat' (first | refine brF c10 ?_ | refine brT c00 ?_ | refine brF c01 ?_ | refine brT c11 ?_ | refine brT (by assumption) ?_ | refine brF (by assumption) ?_)
      refine (@bfT _ _ _ _ _ (inS)) ?_
      refine (@bfT _ _ _ _ _ (kdS hj)) ?_
      refine (@bfT _ _ _ _ _ (kdS hj)) ?_
      repeat' (first | refine brF c10 ?_ | refine brT c00 ?_ | refine brF c01 ?_ | refine brT c11 ?_ | refine brT (by assumption) ?_ | refine brF (by assumption) ?_)
      refine x_tell5 ?_
      refine (hm _ _).trans ?_
      refine unl (bfT rfl ?_)
      repeat' (first | refine brF c10 ?_ | refine brT c00 ?_ | refine brF c01 ?_ | refine brT c11 ?_ | refine brT (by assumption) ?_ | refine brF (by assumption) ?_)
      refine (@bfT _ _ _ _ _ (inS)) ?_
      refine brT w0 ?_
      refine e_find5 ?_
      exact hK _ _ _ rfl (Inv_tell hI (by decide))
    have w1 : ¬ μ (40 + (nI j).toNatClampNeg) 0 = 0 := fun q => w0 (a1.symm.trans q)
    refine unl (bfT rfl ?_)
    repeat' (first | refine brF c10 ?_ | refine brT c00 ?_ | refine brF c01 ?_ | refine brT c11 ?_ | refine brT (by assumption) ?_ | refine brF (by assumption) ?_)
    refine (@bfT _ _ _ _ _ (inS)) ?_
    refine (@bfT _ _ _ _ _ (kdS hj)) ?_
    refine (@bfT _ _ _ _ _ (kdS hj)) ?_
    repeat' (first | refine brF c10 ?_ | refine brT c00 ?_ | refine brF c01 ?_ | refine brT c11 ?_ | refine brT (by assumption) ?_ | refine brF (by assumption) ?_)
    refine x_tell0 ?_
    refine (hm _ _).trans ?_
    refine unl (bfT rfl ?_)
    repeat' (first | refine brF c10 ?_ | refine brT c00 ?_ | refine brF c01 ?_ | refine brT c11 ?_ | refine brT (by assumption) ?_ | refine brF (by assumption) ?_)
    refine (@bfT _ _ _ _ _ (inS)) ?_
    refine brF w0 ?_
    refine e_find0 ?_
    exact hK _ _ _ rfl (Inv_tell hI (by decide))
  · by_cases s1 : s < 0
    · refine unl (bfT rfl ?_)
      repeat' (first | refine brT (by assumption) ?_ | refine brF (by assumption) ?_ | refine br (fun q => ?_) (fun q => ?_))
      all_goals (refine x_tell0 ?_; refine (hm _ _).trans ?_; refine unl (bfT rfl ?_); (repeat' (first | refine brF c10 ?_ | refine brT c00 ?_ | refine brF c01 ?_ | refine brT c11 ?_ | refine brT (by assumption) ?_ | refine brF (by assumption) ?_)); refine e_find0 ?_; exact hK _ _ _ rfl (Inv_tell hI (by decide)))
    by_cases s2 : 3 < s
    · refine unl (bfT rfl ?_)
      repeat' (first | refine brT (by assumption) ?_ | refine brF (by assumption) ?_ | refine br (fun q => ?_) (fun q => ?_))
      all_goals (refine x_tell0 ?_; refine (hm _ _).trans ?_; refine unl (bfT rfl ?_); (repeat' (first | refine brF c10 ?_ | refine brT c00 ?_ | refine brF c01 ?_ | refine brT c11 ?_ | refine brT (by assumption) ?_ | refine brF (by assumption) ?_)); refine e_find0 ?_; exact hK _ _ _ rfl (Inv_tell hI (by decide)))
    obtain ⟨j, hj3, rfl⟩ := nlt_VB (n := 3) (x := s) (by decide) s1 s2
    have hj : j < 4 := by omega
    have inS : inB (nI j) 4 = true := inB_nI hj (by decide)
    obtain ⟨a1, a2, ⟨n, hn, a4⟩, a5⟩ := shF hI.2.2.2.1 hj
    by_cases w0 : μ 56 (nI j).toNatClampNeg = 0
    · have w1 : μ (40 + (nI j).toNatClampNeg) 0 = 0 := a1.trans w0
      refine unl (bfT rfl ?_)
      repeat' (first | refine brF c10 ?_ | refine brT c00 ?_ | refine brF c01 ?_ | refine brT c11 ?_ | refine brT (by assumption) ?_ | refine brF (by assumption) ?_)
      refine (@bfT _ _ _ _ _ (inS)) ?_
      refine (@bfT _ _ _ _ _ (kdS hj)) ?_
      refine (@bfT _ _ _ _ _ (kdS hj)) ?_
      repeat' (first | refine brF c10 ?_ | refine brT c00 ?_ | refine brF c01 ?_ | refine brT c11 ?_ | refine brT (by assumption) ?_ | refine brF (by assumption) ?_)
      refine x_tell5 ?_
      refine (hm _ _).trans ?_
      refine unl (bfT rfl ?_)
      repeat' (first | refine brF c10 ?_ | refine brT c00 ?_ | refine brF c01 ?_ | refine brT c11 ?_ | refine brT (by assumption) ?_ | refine brF (by assumption) ?_)
      refine (@bfT _ _ _ _ _ (inS)) ?_
      refine brT w0 ?_
      refine e_find5 ?_
      exact hK _ _ _ rfl (Inv_tell hI (by decide))
    have w1 : ¬ μ (40 + (nI j).toNatClampNeg) 0 = 0 := fun q => w0 (a1.symm.trans q)
    refine unl (bfT rfl ?_)
    repeat' (first | refine brF c10 ?_ | refine brT c00 ?_ | refine brF c01 ?_ | refine brT c11 ?_ | refine brT (by assumption) ?_ | refine brF (by assumption) ?_)
    refine (@bfT _ _ _ _ _ (inS)) ?_
    refine (@bfT _ _ _ _ _ (kdS hj)) ?_
    refine (@bfT _ _ _ _ _ (kdS hj)) ?_
    repeat' (first | refine brF c10 ?_ | refine brT c00 ?_ | refine brF c01 ?_ | refine brT c11 ?_ | refine brT (by assumption) ?_ | refine brF (by assumption) ?_)
    refine x_tell0 ?_
    refine (hm _ _).trans ?_
    refine unl (bfT rfl ?_)
    repeat' (first | refine brF c10 ?_ | refine brT c00 ?_ | refine brF c01 ?_ | refine brT c11 ?_ | refine brT (by assumption) ?_ | refine brF (by assumption) ?_)
    refine (@bfT _ _ _ _ _ (inS)) ?_
    refine brF w0 ?_
    refine e_find0 ?_
    exact hK _ _ _ rfl (Inv_tell hI (by decide))
  by_cases s1 : s < 0
  · refine unl (bfT rfl ?_)
    repeat' (first | refine brT (by assumption) ?_ | refine brF (by assumption) ?_ | refine br (fun q => ?_) (fun q => ?_))
    all_goals (refine x_tell0 ?_; refine (hm _ _).trans ?_; refine unl (bfT rfl ?_); (repeat' (first | refine brF c10 ?_ | refine brT c00 ?_ | refine brF c01 ?_ | refine brT c11 ?_ | refine brT (by assumption) ?_ | refine brF (by assumption) ?_)); refine e_find0 ?_; exact hK _ _ _ rfl (Inv_tell hI (by decide)))
  by_cases s2 : 3 < s
  · refine unl (bfT rfl ?_)
    repeat' (first | refine brT (by assumption) ?_ | refine brF (by assumption) ?_ | refine br (fun q => ?_) (fun q => ?_))
    all_goals (refine x_tell0 ?_; refine (hm _ _).trans ?_; refine unl (bfT rfl ?_); (repeat' (first | refine brF c10 ?_ | refine brT c00 ?_ | refine brF c01 ?_ | refine brT c11 ?_ | refine brT (by assumption) ?_ | refine brF (by assumption) ?_)); refine e_find0 ?_; exact hK _ _ _ rfl (Inv_tell hI (by decide)))
  obtain ⟨j, hj3, rfl⟩ := nlt_VB (n := 3) (x := s) (by decide) s1 s2
  have hj : j < 4 := by omega
  have inS : inB (nI j) 4 = true := inB_nI hj (by decide)
  obtain ⟨a1, a2, ⟨n, hn, a4⟩, a5⟩ := shF hI.2.2.2.1 hj
  by_cases w0 : μ 56 (nI j).toNatClampNeg = 0
  · have w1 : μ (40 + (nI j).toNatClampNeg) 0 = 0 := a1.trans w0
    refine unl (bfT rfl ?_)
    repeat' (first | refine brF c10 ?_ | refine brT c00 ?_ | refine brF c01 ?_ | refine brT c11 ?_ | refine brT (by assumption) ?_ | refine brF (by assumption) ?_)
    refine (@bfT _ _ _ _ _ (inS)) ?_
    refine (@bfT _ _ _ _ _ (kdS hj)) ?_
    refine (@bfT _ _ _ _ _ (kdS hj)) ?_
    repeat' (first | refine brF c10 ?_ | refine brT c00 ?_ | refine brF c01 ?_ | refine brT c11 ?_ | refine brT (by assumption) ?_ | refine brF (by assumption) ?_)
    refine x_tell5 ?_
    refine (hm _ _).trans ?_
    refine unl (bfT rfl ?_)
    repeat' (first | refine brF c10 ?_ | refine brT c00 ?_ | refine brF c01 ?_ | refine brT c11 ?_ | refine brT (by assumption) ?_ | refine brF (by assumption) ?_)
    refine (@bfT _ _ _ _ _ (inS)) ?_
    refine brT w0 ?_
    refine e_find5 ?_
    exact hK _ _ _ rfl (Inv_tell hI (by decide))
  have w1 : ¬ μ (40 + (nI j).toNatClampNeg) 0 = 0 := fun q => w0 (a1.symm.trans q)
  refine unl (bfT rfl ?_)
  repeat' (first | refine brF c10 ?_ | refine brT c00 ?_ | refine brF c01 ?_ | refine brT c11 ?_ | refine brT (by assumption) ?_ | refine brF (by assumption) ?_)
  refine (@bfT _ _ _ _ _ (inS)) ?_
  refine (@bfT _ _ _ _ _ (kdS hj)) ?_
  refine (@bfT _ _ _ _ _ (kdS hj)) ?_
  repeat' (first | refine brF c10 ?_ | refine brT c00 ?_ | refine brF c01 ?_ | refine brT c11 ?_ | refine brT (by assumption) ?_ | refine brF (by assumption) ?_)
  refine height2X_loop (F := fun i => μ 58 (40 * j + i)) hj hn hd hI.1.2 hI.1.1 (a2.trans a4) a5 (fun ν f2 hq => ?_) (fun ν f2 hq => ?_) 60 1 _ _ _ (by omega) (Nat.le_of_ble_eq_true rfl) rfl Fr.rf rfl
  · have e9 : ν 50 = μ 50 := f2 50 (by unfold inC; omega)
    have e56 : ν 56 = μ 56 := f2 56 (by unfold inC; omega)
    have e57 : ν 57 = μ 57 := f2 57 (by unfold inC; omega)
    have e58 : ν 58 = μ 58 := f2 58 (by unfold inC; omega)
    have g4 : ¬ ν 50 1 - 1 < d := by rw [e9]; exact g3
    have w2 : ¬ ν 56 (nI j).toNatClampNeg = 0 := by rw [e56]; exact w0
    have b57 : ν 57 (nI j).toNatClampNeg = nI n := by rw [e57]; exact a4
    have b58 : ∀ i, i < 40 → ν 58 (40 * j + i) = μ 58 (40 * j + i) := fun i _ => by rw [e58]
    have gG : G1 (ν 50) := by rw [e9]; exact hI.1.2
    refine (hm _ _).trans ?_
    refine unl (bfT rfl ?_)
    repeat' (first | refine brF c10 ?_ | refine brT c00 ?_ | refine brF c01 ?_ | refine brT c11 ?_ | refine brT (by assumption) ?_ | refine brF (by assumption) ?_)
    refine (@bfT _ _ _ _ _ (inS)) ?_
    refine brF w2 ?_
    refine e_findHeights (F := fun i => μ 58 (40 * j + i)) hj hn (hd.dI hI.1.2) gG b57 b58 (fun ν3 hB q5 q6 => ?_)
    rw [e9] at q6
    unfold lsV at q6
    rw [if_neg (by omega)] at q6
    refine brF (show ¬ ν3 49 6 < 0 by rw [q6]; exact nI_nl (by omega)) ?_
    exact hK _ _ _ q6.symm (hB.inv hI f2)
  · have e9 : (telM ν 3) 50 = μ 50 := f2 50 (by unfold inC; omega)
    have e56 : (telM ν 3) 56 = μ 56 := f2 56 (by unfold inC; omega)
    have e57 : (telM ν 3) 57 = μ 57 := f2 57 (by unfold inC; omega)
    have e58 : (telM ν 3) 58 = μ 58 := f2 58 (by unfold inC; omega)
    have g4 : ¬ (telM ν 3) 50 1 - 1 < d := by rw [e9]; exact g3
    have w2 : ¬ (telM ν 3) 56 (nI j).toNatClampNeg = 0 := by rw [e56]; exact w0
    have b57 : (telM ν 3) 57 (nI j).toNatClampNeg = nI n := by rw [e57]; exact a4
    have b58 : ∀ i, i < 40 → (telM ν 3) 58 (40 * j + i) = μ 58 (40 * j + i) := fun i _ => by rw [e58]
    have gG : G1 ((telM ν 3) 50) := by rw [e9]; exact hI.1.2
    refine (hm _ _).trans ?_
    refine unl (bfT rfl ?_)
    repeat' (first | refine brF c10 ?_ | refine brT c00 ?_ | refine brF c01 ?_ | refine brT c11 ?_ | refine brT (by assumption) ?_ | refine brF (by assumption) ?_)
    refine (@bfT _ _ _ _ _ (inS)) ?_
    refine brF w2 ?_
    refine e_findHeights (F := fun i => μ 58 (40 * j + i)) hj hn (hd.dI hI.1.2) gG b57 b58 (fun ν3 hB q5 q6 => ?_)
    rw [e9] at q6
    unfold lsV at q6
    rw [if_pos (by omega)] at q6
    refine brT (show ν3 49 6 < 0 by rw [q6]; decide) ?_
    refine e_find3 ?_
    exact hK _ _ _ rfl (Inv_tbH hI f2 hB (by decide))
set_option maxRecDepth 100000 in
theorem T_kinds {μ : Mem} {k1 : Rtn} {K : Int32 → Rtn} {X : Option Rz} (hI : Inv μ) {s d : Int32} (hm : ∀ z μ1, k1 (some (.int z)) μ1 = S_X5_kinds [.ref 49, .int s, .int d] μ1 (K z)) (hK : ∀ v w μ2, v = w → Inv μ2 → K v (some (.int w)) μ2 = X) : S_X4_kinds [.ref 0, .int s, .int d] μ k1 = X := by
  rcases has_cases hI d with ⟨hd, g1, g2, g3⟩ | g1 | ⟨g1, g2, g3⟩
  rotate_left
  · by_cases s1 : s < 0
    · refine unl (bfT rfl ?_)
      repeat' (first | refine brT (by assumption) ?_ | refine brF (by assumption) ?_ | refine br (fun q => ?_) (fun q => ?_))
      all_goals (refine x_tell0 ?_; refine (hm _ _).trans ?_; refine unl (bfT rfl ?_); (repeat' (first | refine brF c10 ?_ | refine brT c00 ?_ | refine brF c01 ?_ | refine brT c11 ?_ | refine brT (by assumption) ?_ | refine brF (by assumption) ?_)); refine e_find0 ?_; exact hK _ _ _ rfl (Inv_tell hI (by decide)))
    by_cases s2 : 3 < s
    · refine unl (bfT rfl ?_)
      repeat' (first | refine brT (by assumption) ?_ | refine brF (by assumption) ?_ | refine br (fun q => ?_) (fun q => ?_))
      all_goals (refine x_tell0 ?_; refine (hm _ _).trans ?_; refine unl (bfT rfl ?_); (repeat' (first | refine brF c10 ?_ | refine brT c00 ?_ | refine brF c01 ?_ | refine brT c11 ?_ | refine brT (by assumption) ?_ | refine brF (by assumption) ?_)); refine e_find0 ?_; exact hK _ _ _ rfl (Inv_tell hI (by decide)))
    obtain ⟨j, hj3, rfl⟩ := nlt_VB (n := 3) (x := s) (by decide) s1 s2
    have hj : j < 4 := by omega
    have inS : inB (nI j) 4 = true := inB_nI hj (by decide)
    obtain ⟨a1, a2, ⟨n, hn, a4⟩, a5⟩ := shF hI.2.2.2.1 hj
    by_cases w0 : μ 56 (nI j).toNatClampNeg = 0
    · have w1 : μ (40 + (nI j).toNatClampNeg) 0 = 0 := a1.trans w0
      refine unl (bfT rfl ?_)
      repeat' (first | refine brF c10 ?_ | refine brT c00 ?_ | refine brF c01 ?_ | refine brT c11 ?_ | refine brT (by assumption) ?_ | refine brF (by assumption) ?_)
      refine (@bfT _ _ _ _ _ (inS)) ?_
      refine (@bfT _ _ _ _ _ (kdS hj)) ?_
      refine (@bfT _ _ _ _ _ (kdS hj)) ?_
      repeat' (first | refine brF c10 ?_ | refine brT c00 ?_ | refine brF c01 ?_ | refine brT c11 ?_ | refine brT (by assumption) ?_ | refine brF (by assumption) ?_)
      refine x_tell5 ?_
      refine (hm _ _).trans ?_
      refine unl (bfT rfl ?_)
      repeat' (first | refine brF c10 ?_ | refine brT c00 ?_ | refine brF c01 ?_ | refine brT c11 ?_ | refine brT (by assumption) ?_ | refine brF (by assumption) ?_)
      refine (@bfT _ _ _ _ _ (inS)) ?_
      refine brT w0 ?_
      refine e_find5 ?_
      exact hK _ _ _ rfl (Inv_tell hI (by decide))
    have w1 : ¬ μ (40 + (nI j).toNatClampNeg) 0 = 0 := fun q => w0 (a1.symm.trans q)
    refine unl (bfT rfl ?_)
    repeat' (first | refine brF c10 ?_ | refine brT c00 ?_ | refine brF c01 ?_ | refine brT c11 ?_ | refine brT (by assumption) ?_ | refine brF (by assumption) ?_)
    refine (@bfT _ _ _ _ _ (inS)) ?_
    refine (@bfT _ _ _ _ _ (kdS hj)) ?_
    refine (@bfT _ _ _ _ _ (kdS hj)) ?_
    repeat' (first | refine brF c10 ?_ | refine brT c00 ?_ | refine brF c01 ?_ | refine brT c11 ?_ | refine brT (by assumption) ?_ | refine brF (by assumption) ?_)
    refine x_tell0 ?_
    refine (hm _ _).trans ?_
    refine unl (bfT rfl ?_)
    repeat' (first | refine brF c10 ?_ | refine brT c00 ?_ | refine brF c01 ?_ | refine brT c11 ?_ | refine brT (by assumption) ?_ | refine brF (by assumption) ?_)
    refine (@bfT _ _ _ _ _ (inS)) ?_
    refine brF w0 ?_
    refine e_find0 ?_
    exact hK _ _ _ rfl (Inv_tell hI (by decide))
  · by_cases s1 : s < 0
    · refine unl (bfT rfl ?_)
      repeat' (first | refine brT (by assumption) ?_ | refine brF (by assumption) ?_ | refine br (fun q => ?_) (fun q => ?_))
      all_goals (refine x_tell0 ?_; refine (hm _ _).trans ?_; refine unl (bfT rfl ?_); (repeat' (first | refine brF c10 ?_ | refine brT c00 ?_ | refine brF c01 ?_ | refine brT c11 ?_ | refine brT (by assumption) ?_ | refine brF (by assumption) ?_)); refine e_find0 ?_; exact hK _ _ _ rfl (Inv_tell hI (by decide)))
    by_cases s2 : 3 < s
    · refine unl (bfT rfl ?_)
      repeat' (first | refine brT (by assumption) ?_ | refine brF (by assumption) ?_ | refine br (fun q => ?_) (fun q => ?_))
      all_goals (refine x_tell0 ?_; refine (hm _ _).trans ?_; refine unl (bfT rfl ?_); (repeat' (first | refine brF c10 ?_ | refine brT c00 ?_ | refine brF c01 ?_ | refine brT c11 ?_ | refine brT (by assumption) ?_ | refine brF (by assumption) ?_)); refine e_find0 ?_; exact hK _ _ _ rfl (Inv_tell hI (by decide)))
    obtain ⟨j, hj3, rfl⟩ := nlt_VB (n := 3) (x := s) (by decide) s1 s2
    have hj : j < 4 := by omega
    have inS : inB (nI j) 4 = true := inB_nI hj (by decide)
    obtain ⟨a1, a2, ⟨n, hn, a4⟩, a5⟩ := shF hI.2.2.2.1 hj
    by_cases w0 : μ 56 (nI j).toNatClampNeg = 0
    · have w1 : μ (40 + (nI j).toNatClampNeg) 0 = 0 := a1.trans w0
      refine unl (bfT rfl ?_)
      repeat' (first | refine brF c10 ?_ | refine brT c00 ?_ | refine brF c01 ?_ | refine brT c11 ?_ | refine brT (by assumption) ?_ | refine brF (by assumption) ?_)
      refine (@bfT _ _ _ _ _ (inS)) ?_
      refine (@bfT _ _ _ _ _ (kdS hj)) ?_
      refine (@bfT _ _ _ _ _ (kdS hj)) ?_
      repeat' (first | refine brF c10 ?_ | refine brT c00 ?_ | refine brF c01 ?_ | refine brT c11 ?_ | refine brT (by assumption) ?_ | refine brF (by assumption) ?_)
      refine x_tell5 ?_
      refine (hm _ _).trans ?_
      refine unl (bfT rfl ?_)
      repeat' (first | refine brF c10 ?_ | refine brT c00 ?_ | refine brF c01 ?_ | refine brT c11 ?_ | refine brT (by assumption) ?_ | refine brF (by assumption) ?_)
      refine (@bfT _ _ _ _ _ (inS)) ?_
      refine brT w0 ?_
      refine e_find5 ?_
      exact hK _ _ _ rfl (Inv_tell hI (by decide))
    have w1 : ¬ μ (40 + (nI j).toNatClampNeg) 0 = 0 := fun q => w0 (a1.symm.trans q)
    refine unl (bfT rfl ?_)
    repeat' (first | refine brF c10 ?_ | refine brT c00 ?_ | refine brF c01 ?_ | refine brT c11 ?_ | refine brT (by assumption) ?_ | refine brF (by assumption) ?_)
    refine (@bfT _ _ _ _ _ (inS)) ?_
    refine (@bfT _ _ _ _ _ (kdS hj)) ?_
    refine (@bfT _ _ _ _ _ (kdS hj)) ?_
    repeat' (first | refine brF c10 ?_ | refine brT c00 ?_ | refine brF c01 ?_ | refine brT c11 ?_ | refine brT (by assumption) ?_ | refine brF (by assumption) ?_)
    refine x_tell0 ?_
    refine (hm _ _).trans ?_
    refine unl (bfT rfl ?_)
    repeat' (first | refine brF c10 ?_ | refine brT c00 ?_ | refine brF c01 ?_ | refine brT c11 ?_ | refine brT (by assumption) ?_ | refine brF (by assumption) ?_)
    refine (@bfT _ _ _ _ _ (inS)) ?_
    refine brF w0 ?_
    refine e_find0 ?_
    exact hK _ _ _ rfl (Inv_tell hI (by decide))
  by_cases s1 : s < 0
  · refine unl (bfT rfl ?_)
    repeat' (first | refine brT (by assumption) ?_ | refine brF (by assumption) ?_ | refine br (fun q => ?_) (fun q => ?_))
    all_goals (refine x_tell0 ?_; refine (hm _ _).trans ?_; refine unl (bfT rfl ?_); (repeat' (first | refine brF c10 ?_ | refine brT c00 ?_ | refine brF c01 ?_ | refine brT c11 ?_ | refine brT (by assumption) ?_ | refine brF (by assumption) ?_)); refine e_find0 ?_; exact hK _ _ _ rfl (Inv_tell hI (by decide)))
  by_cases s2 : 3 < s
  · refine unl (bfT rfl ?_)
    repeat' (first | refine brT (by assumption) ?_ | refine brF (by assumption) ?_ | refine br (fun q => ?_) (fun q => ?_))
    all_goals (refine x_tell0 ?_; refine (hm _ _).trans ?_; refine unl (bfT rfl ?_); (repeat' (first | refine brF c10 ?_ | refine brT c00 ?_ | refine brF c01 ?_ | refine brT c11 ?_ | refine brT (by assumption) ?_ | refine brF (by assumption) ?_)); refine e_find0 ?_; exact hK _ _ _ rfl (Inv_tell hI (by decide)))
  obtain ⟨j, hj3, rfl⟩ := nlt_VB (n := 3) (x := s) (by decide) s1 s2
  have hj : j < 4 := by omega
  have inS : inB (nI j) 4 = true := inB_nI hj (by decide)
  obtain ⟨a1, a2, ⟨n, hn, a4⟩, a5⟩ := shF hI.2.2.2.1 hj
  by_cases w0 : μ 56 (nI j).toNatClampNeg = 0
  · have w1 : μ (40 + (nI j).toNatClampNeg) 0 = 0 := a1.trans w0
    refine unl (bfT rfl ?_)
    repeat' (first | refine brF c10 ?_ | refine brT c00 ?_ | refine brF c01 ?_ | refine brT c11 ?_ | refine brT (by assumption) ?_ | refine brF (by assumption) ?_)
    refine (@bfT _ _ _ _ _ (inS)) ?_
    refine (@bfT _ _ _ _ _ (kdS hj)) ?_
    refine (@bfT _ _ _ _ _ (kdS hj)) ?_
    repeat' (first | refine brF c10 ?_ | refine brT c00 ?_ | refine brF c01 ?_ | refine brT c11 ?_ | refine brT (by assumption) ?_ | refine brF (by assumption) ?_)
    refine x_tell5 ?_
    refine (hm _ _).trans ?_
    refine unl (bfT rfl ?_)
    repeat' (first | refine brF c10 ?_ | refine brT c00 ?_ | refine brF c01 ?_ | refine brT c11 ?_ | refine brT (by assumption) ?_ | refine brF (by assumption) ?_)
    refine (@bfT _ _ _ _ _ (inS)) ?_
    refine brT w0 ?_
    refine e_find5 ?_
    exact hK _ _ _ rfl (Inv_tell hI (by decide))
  have w1 : ¬ μ (40 + (nI j).toNatClampNeg) 0 = 0 := fun q => w0 (a1.symm.trans q)
  refine unl (bfT rfl ?_)
  repeat' (first | refine brF c10 ?_ | refine brT c00 ?_ | refine brF c01 ?_ | refine brT c11 ?_ | refine brT (by assumption) ?_ | refine brF (by assumption) ?_)
  refine (@bfT _ _ _ _ _ (inS)) ?_
  refine (@bfT _ _ _ _ _ (kdS hj)) ?_
  refine (@bfT _ _ _ _ _ (kdS hj)) ?_
  repeat' (first | refine brF c10 ?_ | refine brT c00 ?_ | refine brF c01 ?_ | refine brT c11 ?_ | refine brT (by assumption) ?_ | refine brF (by assumption) ?_)
  obtain ⟨e, he, rfl⟩ := hd
  have h8 := hI.1.2.n8
  refine kindsX_loop (F := fun i => μ 58 (40 * j + i)) hj hn he hI.1.2 hI.1.1 (a2.trans a4) a5 (fun ν f2 => ?_) 7 0 _ _ _ _ (by omega) (Nat.le_of_ble_eq_true rfl) rfl rfl Fr.rf
  have e9 : ν 50 = μ 50 := f2 50 (by unfold inC; omega)
  have e56 : ν 56 = μ 56 := f2 56 (by unfold inC; omega)
  have e57 : ν 57 = μ 57 := f2 57 (by unfold inC; omega)
  have e58 : ν 58 = μ 58 := f2 58 (by unfold inC; omega)
  have g4 : ¬ ν 50 1 - 1 < nI e := by rw [e9]; exact g3
  have w2 : ¬ ν 56 (nI j).toNatClampNeg = 0 := by rw [e56]; exact w0
  have b57 : ν 57 (nI j).toNatClampNeg = nI n := by rw [e57]; exact a4
  have b58 : ∀ i, i < 40 → ν 58 (40 * j + i) = μ 58 (40 * j + i) := fun i _ => by rw [e58]
  have gG : G1 (ν 50) := by rw [e9]; exact hI.1.2
  refine (hm _ _).trans ?_
  refine unl (bfT rfl ?_)
  repeat' (first | refine brF c10 ?_ | refine brT c00 ?_ | refine brF c01 ?_ | refine brT c11 ?_ | refine brT (by assumption) ?_ | refine brF (by assumption) ?_)
  refine (@bfT _ _ _ _ _ (inS)) ?_
  refine brF w2 ?_
  have ha : inB ((22 : Int32) + 6 * nI e + 0) 70 = true := inD (e := e) (g := 0) (by omega) (by decide)
  have ei : ((22 : Int32) + 6 * nI e + 0).toNatClampNeg = 22 + 6 * e := ixD_cl (d := e) (g := 0) (by omega) (by decide)
  refine (@bfT _ _ _ _ _ (ha)) ?_
  refine kindsM_loop (μ := ν) (w0 := ν 50 ((22 : Int32) + 6 * nI e + 0).toNatClampNeg) (F := fun i => μ 58 (40 * j + i)) hj hn (by rw [e9]; exact he) gG b57 b58 rfl (by rw [ei]) (fun ν3 hB => ?_) 7 0 _ _ _ (ν 50 (22 + 6 * e)) _ (by omega) (Nat.le_of_ble_eq_true rfl) rfl rfl (fun _ _ _ => rfl) (upf_id _ _).symm
  rw [e9]
  exact hK _ _ _ rfl (hB.inv hI f2)
