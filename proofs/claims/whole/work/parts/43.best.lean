/-! causeFor, spreadFor, kindFor, against -/
theorem inD {e g : Nat} (he : e < 8) (hg : g < 6) : inB ((22 : Int32) + 6 * nI e + nI g) 70 = true := dI_in ⟨e, he, rfl⟩ ⟨g, hg, rfl⟩
def cfB (n : Nat) (r : Nat → Int32) (e : Nat) (v : Int32) (c : Nat) : Bool := !(decide (rD (itR n (upf r (22 + 6 * e + 1) (nI c))) (nI e) 4 < v))
theorem G1_c {r : Nat → Int32} (hG : G1 r) {e c : Nat} (he : e < (r 1).toNatClampNeg) (hc : c ≤ 99) : G1 (upf r (22 + 6 * e + 1) (nI c)) := G1_put hG he (by decide) (nf rfl) (fun _ => ⟨c, hc, rfl⟩) (nf rfl) (nf rfl) (nf rfl)
theorem has_up {r : Nat → Int32} {a : Nat} {v x : Int32} (ha : ¬ 1 = a) (h : hasR r x) : hasR (upf r a v) x := by
  obtain ⟨d, hd, e⟩ := h
  exact ⟨d, by rw [upf_ne _ _ ha]; exact hd, e⟩
set_option maxRecDepth 100000 in
theorem causeM_loop {k : Rtn} {X : Option Rz} {μ : Mem} {v w0 at0 : Int32} {n e : Nat} (hn : n ≤ 60) (he : e < (μ 50 1).toNatClampNeg) (hG : G1 (μ 50)) (ea : at0 = (22 : Int32) + 6 * nI e + 1) (e0 : w0 = μ 50 (22 + 6 * e + 1)) (hk : ∀ ν, Back μ ν → fsP (cfB n (μ 50) e v) 100 0 ≤ 99 → k (some (.int (nI (fsP (cfB n (μ 50) e v) 100 0)))) ν = X) (hk2 : ∀ ν, Back μ ν → fsP (cfB n (μ 50) e v) 100 0 = 100 → k (some (.int (-1000004))) (fndM ν 3) = X) :
    ∀ (m i f : Nat) (x : Int32) (ν : Mem), i + m = 100 → 80 * m + 80 ≤ f → x = nI i → (∀ j, ¬ j = 50 → ¬ j = 52 → ν j = μ j) → ν 50 = upf (μ 50) (22 + 6 * e + 1) (nI i) → fsP (cfB n (μ 50) e v) 100 0 = fsP (cfB n (μ 50) e v) m i → lockO (oILd 6 65) 0 (runK P_X5_causeFor f k) k [some (.ref 49), some (.int (nI e)), some (.int v), some (.int (nI n)), some (.int at0), some (.int w0), some (.int x)] [] ν = X := by
  have h8 := hG.n8
  have ha : inB at0 70 = true := by rw [ea]; exact inD (e := e) (g := 1) (by omega) (by decide)
  have ei : at0.toNatClampNeg = 22 + 6 * e + 1 := by rw [ea]; exact ixD_cl (d := e) (g := 1) (by omega) (by decide)
  have hB : ∀ (ν : Mem) (u : Int32), (∀ j, ¬ j = 50 → ¬ j = 52 → ν j = μ j) → ν 50 = upf (μ 50) (22 + 6 * e + 1) u → Back μ (up2 ν 50 at0.toNatClampNeg w0) := fun ν v a b => nb_back (a := 22 + 6 * e + 1) (nb_put a) (by rw [← e0]; exact v_putI ei b)
  intro m
  induction m with
  | zero =>
    intro i f x ν hi hf hxx hN hV hs
    have ei : i = 100 := by omega
    subst hxx; subst ei
    obtain ⟨F, rfl⟩ : ∃ F, f = F + 80 := ⟨f - 80, by omega⟩
    refine unO ?_
    refine (@bfT _ _ _ _ _ (ha)) ?_
    refine e_find3 ?_
    exact hk2 _ (hB ν _ hN hV) hs
  | succ m ih =>
    intro i f x ν hi hf hxx hN hV hs
    subst hxx
    obtain ⟨F, rfl⟩ : ∃ F, f = F + 80 := ⟨f - 80, by omega⟩
    have hG2 : G1 (ν 50) := by rw [hV]; exact G1_c hG he (by omega)
    have l6 : ¬ 99 < nI i := nI_nlt (a := 99) (b := i) (by omega) (by decide)
    refine unO ?_
    refine brF l6 ?_
    refine e_behind (inD (e := e) (g := 4) (by omega) (by decide)) (show n ≤ 200 by omega) rfl hG2 (fun ν2 w ew b2 => ?_)
    rw [hV] at ew
    have hV2 : ν2 50 = upf (μ 50) (22 + 6 * e + 1) (nI i) := (b2 50 (by decide)).trans hV
    by_cases q2 : rD (itR n (upf (μ 50) (22 + 6 * e + 1) (nI i))) (nI e) 4 < v
    · have q : cfB n (μ 50) e v i = false := by simp [cfB, q2]
      refine brT (show w < v by rw [ew]; exact q2) ?_
      refine (@bfT _ _ _ _ _ (ha)) ?_
      refine ih (i + 1) _ _ _ (by omega) (by omega) (nI_succ i).symm (nb_put (nb_bk hN b2)) ?_ (hs.trans (fsP_s q))
      rw [nI_succ]
      exact v_putI ei hV2
    · have q : cfB n (μ 50) e v i = true := by simp [cfB, q2]
      refine brF (show ¬ w < v by rw [ew]; exact q2) ?_
      refine (@bfT _ _ _ _ _ (ha)) ?_
      refine brF l6 ?_
      have es : fsP (cfB n (μ 50) e v) 100 0 = i := hs.trans (fsP_t q)
      rw [es] at hk
      exact hk _ (hB ν2 _ (nb_bk hN b2) hV2) (by omega)
set_option maxRecDepth 100000 in
theorem e_causeFor {μ : Mem} {k : Rtn} {X : Option Rz} {v : Int32} {n e : Nat} (hn : n ≤ 40) (v1 : ¬ v < 0) (v2 : ¬ 9999 < v) (he : e < (μ 50 1).toNatClampNeg) (hG : G1 (μ 50)) (hk : ∀ ν, Back μ ν → fsP (cfB n (μ 50) e v) 100 0 ≤ 99 → k (some (.int (nI (fsP (cfB n (μ 50) e v) 100 0)))) ν = X) (hk2 : ∀ ν, Back μ ν → fsP (cfB n (μ 50) e v) 100 0 = 100 → k (some (.int (-1000004))) (fndM ν 3) = X) : S_X5_causeFor [.ref 49, .int (nI e), .int v, .int (nI n)] μ k = X := by
  have h8 := hG.n8
  have hd : hasR (μ 50) (nI e) := ⟨e, he, rfl⟩
  have g1 : ¬ nI e < 0 := hd.nn hG
  have g3 : ¬ μ 50 1 - 1 < nI e := has_nl hd hG
  have n1 : ¬ nI n < 0 := nI_nl (by omega)
  have n2 : ¬ 40 < nI n := nI_nlt (a := 40) (b := n) hn (by decide)
  have ha : inB ((22 : Int32) + 6 * nI e + 1) 70 = true := inD (e := e) (g := 1) (by omega) (by decide)
  have ei : ((22 : Int32) + 6 * nI e + 1).toNatClampNeg = 22 + 6 * e + 1 := ixD_cl (d := e) (g := 1) (by omega) (by decide)
  refine unl (bfT rfl ?_)
  repeat' (first | refine brF c10 ?_ | refine brT c00 ?_ | refine brF c01 ?_ | refine brT c11 ?_ | refine brT (by assumption) ?_ | refine brF (by assumption) ?_)
  refine (@bfT _ _ _ _ _ (ha)) ?_
  refine (@bfT _ _ _ _ _ (ha)) ?_
  refine causeM_loop (w0 := μ 50 ((22 : Int32) + 6 * nI e + 1).toNatClampNeg) (n := n) (show n ≤ 60 by omega) he hG rfl (by rw [ei]) hk hk2 100 0 _ _ _ (by omega) (Nat.le_of_ble_eq_true rfl) rfl (nb_put (fun _ _ _ => rfl)) ?_ rfl
  exact v_putI ei (upf_id _ _).symm
set_option maxRecDepth 100000 in
theorem causeX_loop {k : Rtn} {X : Option Rz} {μ : Mem} {v : Int32} {r : Nat → Int32} {n e : Nat} (hn : n ≤ 60) (he : e < (r 1).toNatClampNeg) (hG : G1 r) (hR0 : Rep μ 1 r) (hk : ∀ ν, Fr 2 μ ν → fsP (cfB n r e v) 100 0 ≤ 99 → k (some (.int (nI (fsP (cfB n r e v) 100 0)))) ν = X) (hk2 : ∀ ν, Fr 2 μ ν → fsP (cfB n r e v) 100 0 = 100 → k (some (.int (-1000004))) (telM ν 3) = X) :
    ∀ (m i f : Nat) (x : Int32) (ν : Mem), i + m = 100 → 80 * m + 80 ≤ f → x = nI i → Fr 2 μ ν → fsP (cfB n r e v) 100 0 = fsP (cfB n r e v) m i → lockO (oILd 4 44) 0 (runK P_X4_causeFor f k) k [some (.ref 0), some (.int (nI e)), some (.int v), some (.int (nI n)), some (.int x)] [] ν = X := by
  have h8 := hG.n8
  have hx : dI (nI e) := ⟨e, by omega, rfl⟩
  intro m
  induction m with
  | zero =>
    intro i f x ν hi hf hxx hF hs
    have ei : i = 100 := by omega
    subst hxx; subst ei
    obtain ⟨F, rfl⟩ : ∃ F, f = F + 80 := ⟨f - 80, by omega⟩
    refine unO ?_
    refine x_tell3 ?_
    exact hk2 _ hF hs
  | succ m ih =>
    intro i f x ν hi hf hxx hF hs
    subst hxx
    obtain ⟨F, rfl⟩ : ∃ F, f = F + 80 := ⟨f - 80, by omega⟩
    have l6 : ¬ 99 < nI i := nI_nlt (a := 99) (b := i) (by omega) (by decide)
    refine unO ?_
    refine brF l6 ?_
    refine x_bec_21 (rep21 hR0 hG hF) hG (fun ν1 r1 f1 => ?_)
    refine (@bfT _ _ _ _ _ (in8 hx)) ?_
    refine (@bfT _ _ _ _ _ (kdq_2 hx)) ?_
    have hd2 : hasR (upf r (22 + 6 * e + 1) (nI i)) (nI e) := has_up (by omega) ⟨e, he, rfl⟩
    have ec : (nI e).toNatClampNeg = e := nI_cl (by omega)
    have hq : inC 2 (21 + (nI e).toNatClampNeg) := by rw [ec]; exact inC_d (c := 2) (by omega)
    have rq : Rep (up2 ν1 (21 + (nI e).toNatClampNeg) 1 (nI i)) 2 (upf r (22 + 6 * e + 1) (nI i)) := by rw [ec]; exact rep_put (c := 2) ⟨by decide, by decide⟩ r1 he (by decide)
    refine x_tr hn rfl hd2 (G1_c hG he (by omega)) rq (fun ν2 w ew f2 => ?_)
    have fA : Fr 2 μ ν2 := hF.tr (f1.tr ((Fr.up2 hq).tr f2))
    by_cases q2 : rD (itR n (upf r (22 + 6 * e + 1) (nI i))) (nI e) 4 < v
    · have q : cfB n r e v i = false := by simp [cfB, q2]
      refine brT (show w < v by rw [ew]; exact q2) ?_
      exact ih (i + 1) _ _ _ (by omega) (by omega) (nI_succ i).symm fA (hs.trans (fsP_s q))
    · have q : cfB n r e v i = true := by simp [cfB, q2]
      refine brF (show ¬ w < v by rw [ew]; exact q2) ?_
      have es : fsP (cfB n r e v) 100 0 = i := hs.trans (fsP_t q)
      rw [es] at hk
      exact hk _ fA (by omega)
set_option maxRecDepth 100000 in
theorem T_causeFor {μ : Mem} {k1 : Rtn} {K : Int32 → Rtn} {X : Option Rz} (hI : Inv μ) {d v a : Int32} (hm : ∀ z μ1, k1 (some (.int z)) μ1 = S_X5_causeFor [.ref 49, .int d, .int v, .int a] μ1 (K z)) (hK : ∀ v w μ2, v = w → Inv μ2 → K v (some (.int w)) μ2 = X) : S_X4_causeFor [.ref 0, .int d, .int v, .int a] μ k1 = X := by
  rcases has_cases hI d with ⟨hd, g1, g2, g3⟩ | g1 | ⟨g1, g2, g3⟩
  rotate_left
  · refine unl (bfT rfl ?_)
    repeat' (first | refine brT (by assumption) ?_ | refine brF (by assumption) ?_ | refine br (fun q => ?_) (fun q => ?_))
    all_goals (refine x_tell0 ?_; refine (hm _ _).trans ?_; refine unl (bfT rfl ?_); (repeat' (first | refine brF c10 ?_ | refine brT c00 ?_ | refine brF c01 ?_ | refine brT c11 ?_ | refine brT (by assumption) ?_ | refine brF (by assumption) ?_)); refine e_find0 ?_; exact hK _ _ _ rfl (Inv_tell hI (by decide)))
  · refine unl (bfT rfl ?_)
    repeat' (first | refine brT (by assumption) ?_ | refine brF (by assumption) ?_ | refine br (fun q => ?_) (fun q => ?_))
    all_goals (refine x_tell0 ?_; refine (hm _ _).trans ?_; refine unl (bfT rfl ?_); (repeat' (first | refine brF c10 ?_ | refine brT c00 ?_ | refine brF c01 ?_ | refine brT c11 ?_ | refine brT (by assumption) ?_ | refine brF (by assumption) ?_)); refine e_find0 ?_; exact hK _ _ _ rfl (Inv_tell hI (by decide)))
  by_cases v1 : v < 0
  · refine unl (bfT rfl ?_)
    repeat' (first | refine brT (by assumption) ?_ | refine brF (by assumption) ?_ | refine br (fun q => ?_) (fun q => ?_))
    all_goals (refine x_tell0 ?_; refine (hm _ _).trans ?_; refine unl (bfT rfl ?_); (repeat' (first | refine brF c10 ?_ | refine brT c00 ?_ | refine brF c01 ?_ | refine brT c11 ?_ | refine brT (by assumption) ?_ | refine brF (by assumption) ?_)); refine e_find0 ?_; exact hK _ _ _ rfl (Inv_tell hI (by decide)))
  by_cases v2 : 9999 < v
  · refine unl (bfT rfl ?_)
    repeat' (first | refine brT (by assumption) ?_ | refine brF (by assumption) ?_ | refine br (fun q => ?_) (fun q => ?_))
    all_goals (refine x_tell0 ?_; refine (hm _ _).trans ?_; refine unl (bfT rfl ?_); (repeat' (first | refine brF c10 ?_ | refine brT c00 ?_ | refine brF c01 ?_ | refine brT c11 ?_ | refine brT (by assumption) ?_ | refine brF (by assumption) ?_)); refine e_find0 ?_; exact hK _ _ _ rfl (Inv_tell hI (by decide)))
  by_cases a1 : a < 0
  · refine unl (bfT rfl ?_)
    repeat' (first | refine brT (by assumption) ?_ | refine brF (by assumption) ?_ | refine br (fun q => ?_) (fun q => ?_))
    all_goals (refine x_tell0 ?_; refine (hm _ _).trans ?_; refine unl (bfT rfl ?_); (repeat' (first | refine brF c10 ?_ | refine brT c00 ?_ | refine brF c01 ?_ | refine brT c11 ?_ | refine brT (by assumption) ?_ | refine brF (by assumption) ?_)); refine e_find0 ?_; exact hK _ _ _ rfl (Inv_tell hI (by decide)))
  by_cases a2 : 40 < a
  · refine unl (bfT rfl ?_)
    repeat' (first | refine brT (by assumption) ?_ | refine brF (by assumption) ?_ | refine br (fun q => ?_) (fun q => ?_))
    all_goals (refine x_tell0 ?_; refine (hm _ _).trans ?_; refine unl (bfT rfl ?_); (repeat' (first | refine brF c10 ?_ | refine brT c00 ?_ | refine brF c01 ?_ | refine brT c11 ?_ | refine brT (by assumption) ?_ | refine brF (by assumption) ?_)); refine e_find0 ?_; exact hK _ _ _ rfl (Inv_tell hI (by decide)))
  obtain ⟨n, hn, rfl⟩ := nlt_VB (n := 40) (by decide) a1 a2
  obtain ⟨e, he, rfl⟩ := hd
  refine unl (bfT rfl ?_)
  repeat' (first | refine brF c10 ?_ | refine brT c00 ?_ | refine brF c01 ?_ | refine brT c11 ?_ | refine brT (by assumption) ?_ | refine brF (by assumption) ?_)
  refine causeX_loop (show n ≤ 60 by omega) he hI.1.2 hI.1.1 (fun ν f2 hj => ?_) (fun ν f2 hj => ?_) 100 0 _ _ _ (by omega) (Nat.le_of_ble_eq_true rfl) rfl Fr.rf rfl
  · refine (hm _ _).trans ?_
    have e9 : ν 50 = μ 50 := f2 50 (by unfold inC; omega)
    rw [← e9] at hj he ⊢
    refine e_causeFor hn v1 v2 he (by rw [e9]; exact hI.1.2) (fun ν3 hB _ => ?_) (fun ν3 hB q => ?_)
    · exact hK _ _ _ rfl (hB.inv hI f2)
    · omega
  · refine (hm _ _).trans ?_
    have e9 : (telM ν 3) 50 = μ 50 := f2 50 (by unfold inC; omega)
    rw [← e9] at hj he
    refine e_causeFor hn v1 v2 he (by rw [e9]; exact hI.1.2) (fun ν3 hB q => ?_) (fun ν3 hB _ => ?_)
    · omega
    · exact hK _ _ _ rfl (Inv_tb hI f2 hB (by decide))
def bstF (F : Nat → Int32) (b0 : Int32) : Nat → Int32 × Int32
  | 0 => (b0, -1)
  | i + 1 => bif decide ((bstF F b0 i).2 < F i) then (nI i, F i) else bstF F b0 i
theorem bstF_t {F : Nat → Int32} {b0 b mo : Int32} {i : Nat} (hb : (b, mo) = bstF F b0 i) (h : mo < F i) : (nI i, F i) = bstF F b0 (i + 1) := by
  show _ = (bif decide ((bstF F b0 i).2 < F i) then (nI i, F i) else bstF F b0 i)
  rw [← hb, decide_eq_true h]; rfl
theorem bstF_f {F : Nat → Int32} {b0 b mo : Int32} {i : Nat} (hb : (b, mo) = bstF F b0 i) (h : ¬ mo < F i) : (b, mo) = bstF F b0 (i + 1) := by
  show _ = (bif decide ((bstF F b0 i).2 < F i) then (nI i, F i) else bstF F b0 i)
  rw [← hb, decide_eq_false h]; rfl
def bsF (n : Nat) (r : Nat → Int32) (a : Nat) (d : Int32) (v : Nat) : Int32 := rD (itR n (upf r a (nI v))) d 4
set_option maxRecDepth 100000 in
theorem bestM_loop {k : Rtn} {X : Option Rz} {μ : Mem} {d w0 at0 : Int32} {n a N : Nat} (hN0 : N ≤ 10) (hn : n ≤ 60) (hx : dI d) (ha : inB at0 70 = true) (ei : at0.toNatClampNeg = a) (hG : ∀ v, v < N → G1 (upf (μ 50) a (nI v))) (e0 : w0 = μ 50 a) (hk : ∀ ν, Back μ ν → k (some (.int (bstF (bsF n (μ 50) a d) 0 N).1)) ν = X) :
    ∀ (m i f : Nat) (x b mo u : Int32) (w : Option Value) (ν : Mem), i + m = N → 80 * m + 80 ≤ f → x = nI i → (b, mo) = bstF (bsF n (μ 50) a d) 0 i → (∀ j, ¬ j = 50 → ¬ j = 52 → ν j = μ j) → ν 50 = upf (μ 50) a u → lockO (oILd 8 19) 0 (runK P_X5_bestFor f k) k [some (.ref 49), some (.int at0), some (.int (nI N)), some (.int d), some (.int (nI n)), some (.int w0), some (.int b), some (.int mo), some (.int x), w] [] ν = X := by
  intro m
  induction m with
  | zero =>
    intro i f x b mo u w ν hi hf hxx hb hN hV
    have e9 : i = N := by omega
    subst hxx; subst e9
    obtain ⟨F, rfl⟩ : ∃ F, f = F + 80 := ⟨f - 80, by omega⟩
    refine unO ?_
    refine brF (nI_nlt (Nat.le_refl i) (by omega)) ?_
    refine (@bfT _ _ _ _ _ (ha)) ?_
    rw [← hb] at hk
    exact hk _ (nb_back (a := a) (nb_put hN) (by rw [← e0]; exact v_putI ei hV))
  | succ m ih =>
    intro i f x b mo u w ν hi hf hxx hb hN hV
    subst hxx
    obtain ⟨F, rfl⟩ : ∃ F, f = F + 80 := ⟨f - 80, by omega⟩
    refine unO ?_
    refine brT (nI_lt (a := i) (b := N) (by omega) (by omega)) ?_
    refine (@bfT _ _ _ _ _ (ha)) ?_
    have hV1 : up2 ν 50 at0.toNatClampNeg (nI i) 50 = upf (μ 50) a (nI i) := v_putI ei hV
    have hN1 : ∀ j, ¬ j = 50 → ¬ j = 52 → up2 ν 50 at0.toNatClampNeg (nI i) j = μ j := nb_put hN
    refine e_behind (μ := up2 ν 50 at0.toNatClampNeg (nI i)) (dI_in hx f4) (show n ≤ 200 by omega) rfl (by rw [hV1]; exact hG i (by omega)) (fun ν2 v ew b2 => ?_)
    rw [hV1] at ew
    have ew2 : v = bsF n (μ 50) a d i := ew
    have hV2 : ν2 50 = upf (μ 50) a (nI i) := (b2 50 (by decide)).trans hV1
    by_cases q : mo < bsF n (μ 50) a d i
    · refine brT (show mo < v by rw [ew2]; exact q) ?_
      refine ih (i + 1) _ _ _ _ (nI i) _ _ (by omega) (by omega) (nI_succ i).symm ?_ (nb_bk hN1 b2) hV2
      rw [ew2]
      exact bstF_t hb q
    · refine brF (show ¬ mo < v by rw [ew2]; exact q) ?_
      exact ih (i + 1) _ _ _ _ (nI i) _ _ (by omega) (by omega) (nI_succ i).symm (bstF_f hb q) (nb_bk hN1 b2) hV2
set_option maxRecDepth 100000 in
theorem e_bestFor {μ : Mem} {k : Rtn} {X : Option Rz} {d at0 z y : Int32} {n a N : Nat} (hz : z = nI N) (hy : y = nI n) (hN0 : N ≤ 10) (hn : n ≤ 60) (hx : dI d) (ha : inB at0 70 = true) (ei : at0.toNatClampNeg = a) (hG : ∀ v, v < N → G1 (upf (μ 50) a (nI v))) (hk : ∀ ν, Back μ ν → k (some (.int (bstF (bsF n (μ 50) a d) 0 N).1)) ν = X) : S_X5_bestFor [.ref 49, .int at0, .int z, .int d, .int y] μ k = X := by
  subst hz; subst hy
  refine unl (bfT rfl ?_)
  refine (@bfT _ _ _ _ _ (ha)) ?_
  refine bestM_loop (w0 := μ 50 at0.toNatClampNeg) hN0 hn hx ha ei hG (by rw [ei]) hk N 0 _ _ _ _ (μ 50 a) _ _ (by omega) (Nat.le_trans (show 80 * N + 80 ≤ 880 by omega) (Nat.le_of_ble_eq_true rfl)) rfl rfl (fun _ _ _ => rfl) (upf_id _ _).symm
set_option maxRecDepth 100000 in
theorem spreadX_loop {k : Rtn} {X : Option Rz} {μ : Mem} {r : Nat → Int32} {n e : Nat} (hn : n ≤ 60) (he : e < (r 1).toNatClampNeg) (hG : G1 r) (hR0 : Rep μ 1 r) (hk : ∀ ν, Fr 2 μ ν → k (some (.int (bstF (bsF n r (4) (nI e)) 0 10).1)) ν = X) :
    ∀ (m i f : Nat) (x b mo : Int32) (w : Option Value) (ν : Mem), i + m = 10 → 80 * m + 80 ≤ f → x = nI i → (b, mo) = bstF (bsF n r (4) (nI e)) 0 i → Fr 2 μ ν → lockO (oILd 5 38) 0 (runK P_X4_spreadFor f k) k [some (.ref 0), some (.int (nI e)), some (.int (nI n)), some (.int b), some (.int mo), some (.int x), w] [] ν = X := by
  have h8 := hG.n8
  have hx : dI (nI e) := ⟨e, by omega, rfl⟩
  intro m
  induction m with
  | zero =>
    intro i f x b mo w ν hi hf hxx hb hF
    have e9 : i = 10 := by omega
    subst hxx; subst e9
    obtain ⟨F, rfl⟩ : ∃ F, f = F + 80 := ⟨f - 80, by omega⟩
    refine unO ?_
    rw [← hb] at hk
    exact hk _ hF
  | succ m ih =>
    intro i f x b mo w ν hi hf hxx hb hF
    subst hxx
    obtain ⟨F, rfl⟩ : ∃ F, f = F + 80 := ⟨f - 80, by omega⟩
    refine unO ?_
    refine brF (nI_nlt (a := 9) (b := i) (by omega) (by decide)) ?_
    refine x_bec_21 (rep21 hR0 hG hF) hG (fun ν1 r1 f1 => ?_)
    have hq : inC 2 2 := Or.inl rfl
    have rq : Rep (up2 ν1 2 1 (nI i)) 2 (upf r 4 (nI i)) := rep_own (k := 1) ⟨by decide, by decide⟩ r1 (by decide)
    refine x_tr hn rfl (has_up (by omega) ⟨e, he, rfl⟩) (G1_own hG (by decide) (by decide) (nf rfl) (fun _ => ⟨i, by omega, rfl⟩) (nf rfl)) rq (fun ν2 v ew f2 => ?_)
    have ew2 : v = bsF n r (4) (nI e) i := ew
    have fA : Fr 2 μ ν2 := hF.tr (f1.tr ((Fr.up2 hq).tr f2))
    by_cases q : mo < bsF n r (4) (nI e) i
    · refine brT (show mo < v by rw [ew2]; exact q) ?_
      refine ih (i + 1) _ _ _ _ _ _ (by omega) (by omega) (nI_succ i).symm ?_ fA
      rw [ew2]
      exact bstF_t hb q
    · refine brF (show ¬ mo < v by rw [ew2]; exact q) ?_
      exact ih (i + 1) _ _ _ _ _ _ (by omega) (by omega) (nI_succ i).symm (bstF_f hb q) fA
set_option maxRecDepth 100000 in
theorem T_spreadFor {μ : Mem} {k1 : Rtn} {K : Int32 → Rtn} {X : Option Rz} (hI : Inv μ) {d a : Int32} (hm : ∀ z μ1, k1 (some (.int z)) μ1 = S_X5_spreadFor [.ref 49, .int d, .int a] μ1 (K z)) (hK : ∀ v w μ2, v = w → Inv μ2 → K v (some (.int w)) μ2 = X) : S_X4_spreadFor [.ref 0, .int d, .int a] μ k1 = X := by
  rcases has_cases hI d with ⟨hd, g1, g2, g3⟩ | g1 | ⟨g1, g2, g3⟩
  rotate_left
  · refine unl (bfT rfl ?_)
    repeat' (first | refine brT (by assumption) ?_ | refine brF (by assumption) ?_ | refine br (fun q => ?_) (fun q => ?_))
    all_goals (refine x_tell0 ?_; refine (hm _ _).trans ?_; refine unl (bfT rfl ?_); (repeat' (first | refine brF c10 ?_ | refine brT c00 ?_ | refine brF c01 ?_ | refine brT c11 ?_ | refine brT (by assumption) ?_ | refine brF (by assumption) ?_)); refine e_find0 ?_; exact hK _ _ _ rfl (Inv_tell hI (by decide)))
  · refine unl (bfT rfl ?_)
    repeat' (first | refine brT (by assumption) ?_ | refine brF (by assumption) ?_ | refine br (fun q => ?_) (fun q => ?_))
    all_goals (refine x_tell0 ?_; refine (hm _ _).trans ?_; refine unl (bfT rfl ?_); (repeat' (first | refine brF c10 ?_ | refine brT c00 ?_ | refine brF c01 ?_ | refine brT c11 ?_ | refine brT (by assumption) ?_ | refine brF (by assumption) ?_)); refine e_find0 ?_; exact hK _ _ _ rfl (Inv_tell hI (by decide)))
  by_cases a1 : a < 0
  · refine unl (bfT rfl ?_)
    repeat' (first | refine brT (by assumption) ?_ | refine brF (by assumption) ?_ | refine br (fun q => ?_) (fun q => ?_))
    all_goals (refine x_tell0 ?_; refine (hm _ _).trans ?_; refine unl (bfT rfl ?_); (repeat' (first | refine brF c10 ?_ | refine brT c00 ?_ | refine brF c01 ?_ | refine brT c11 ?_ | refine brT (by assumption) ?_ | refine brF (by assumption) ?_)); refine e_find0 ?_; exact hK _ _ _ rfl (Inv_tell hI (by decide)))
  by_cases a2 : 60 < a
  · refine unl (bfT rfl ?_)
    repeat' (first | refine brT (by assumption) ?_ | refine brF (by assumption) ?_ | refine br (fun q => ?_) (fun q => ?_))
    all_goals (refine x_tell0 ?_; refine (hm _ _).trans ?_; refine unl (bfT rfl ?_); (repeat' (first | refine brF c10 ?_ | refine brT c00 ?_ | refine brF c01 ?_ | refine brT c11 ?_ | refine brT (by assumption) ?_ | refine brF (by assumption) ?_)); refine e_find0 ?_; exact hK _ _ _ rfl (Inv_tell hI (by decide)))
  obtain ⟨n, hn, rfl⟩ := nlt_VB (n := 60) (by decide) a1 a2
  obtain ⟨e, he, rfl⟩ := hd
  have h8 := hI.1.2.n8
  refine unl (bfT rfl ?_)
  repeat' (first | refine brF c10 ?_ | refine brT c00 ?_ | refine brF c01 ?_ | refine brT c11 ?_ | refine brT (by assumption) ?_ | refine brF (by assumption) ?_)
  refine spreadX_loop hn he hI.1.2 hI.1.1 (fun ν f2 => ?_) 10 0 _ _ _ _ _ _ (by omega) (Nat.le_of_ble_eq_true rfl) rfl rfl Fr.rf
  refine (hm _ _).trans ?_
  have e9 : ν 50 = μ 50 := f2 50 (by unfold inC; omega)
  have g4 : ¬ ν 50 1 - 1 < nI e := by rw [e9]; exact g3
  refine unl (bfT rfl ?_)
  repeat' (first | refine brF c10 ?_ | refine brT c00 ?_ | refine brF c01 ?_ | refine brT c11 ?_ | refine brT (by assumption) ?_ | refine brF (by assumption) ?_)
  refine e_bestFor (N := 10) (n := n) (a := 4) rfl rfl (by decide) hn ⟨e, by omega, rfl⟩ (by decide) (by decide) (fun v hv => ?_) (fun ν3 hB => ?_)
  · rw [e9]
    exact G1_own hI.1.2 (by decide) (by decide) (nf rfl) (fun _ => ⟨v, by omega, rfl⟩) (nf rfl)
  · rw [e9]
    exact hK _ _ _ rfl (hB.inv hI f2)
set_option maxRecDepth 100000 in
theorem kindX_loop {k : Rtn} {X : Option Rz} {μ : Mem} {r : Nat → Int32} {n e : Nat} (hn : n ≤ 60) (he : e < (r 1).toNatClampNeg) (hG : G1 r) (hR0 : Rep μ 1 r) (hk : ∀ ν, Fr 2 μ ν → k (some (.int (bstF (bsF n r (22 + 6 * e) (nI e)) 0 7).1)) ν = X) :
    ∀ (m i f : Nat) (x b mo : Int32) (w : Option Value) (ν : Mem), i + m = 7 → 80 * m + 80 ≤ f → x = nI i → (b, mo) = bstF (bsF n r (22 + 6 * e) (nI e)) 0 i → Fr 2 μ ν → lockO (oILd 5 38) 0 (runK P_X4_kindFor f k) k [some (.ref 0), some (.int (nI e)), some (.int (nI n)), some (.int b), some (.int mo), some (.int x), w] [] ν = X := by
  have h8 := hG.n8
  have hx : dI (nI e) := ⟨e, by omega, rfl⟩
  intro m
  induction m with
  | zero =>
    intro i f x b mo w ν hi hf hxx hb hF
    have e9 : i = 7 := by omega
    subst hxx; subst e9
    obtain ⟨F, rfl⟩ : ∃ F, f = F + 80 := ⟨f - 80, by omega⟩
    refine unO ?_
    rw [← hb] at hk
    exact hk _ hF
  | succ m ih =>
    intro i f x b mo w ν hi hf hxx hb hF
    subst hxx
    obtain ⟨F, rfl⟩ : ∃ F, f = F + 80 := ⟨f - 80, by omega⟩
    refine unO ?_
    refine brF (nI_nlt (a := 6) (b := i) (by omega) (by decide)) ?_
    refine x_bec_21 (rep21 hR0 hG hF) hG (fun ν1 r1 f1 => ?_)
    refine (@bfT _ _ _ _ _ (in8 hx)) ?_
    refine (@bfT _ _ _ _ _ (kdq_2 hx)) ?_
    have ec : (nI e).toNatClampNeg = e := nI_cl (by omega)
    have hq : inC 2 (21 + (nI e).toNatClampNeg) := by rw [ec]; exact inC_d (c := 2) (by omega)
    have rq : Rep (up2 ν1 (21 + (nI e).toNatClampNeg) 0 (nI i)) 2 (upf r (22 + 6 * e) (nI i)) := by rw [ec]; exact rep_put (c := 2) (g := 0) ⟨by decide, by decide⟩ r1 he (by decide)
    refine x_tr hn rfl (has_up (by omega) ⟨e, he, rfl⟩) (G1_put (g := 0) hG he (by decide) (fun _ => ⟨i, by omega, rfl⟩) (nf rfl) (nf rfl) (nf rfl) (nf rfl)) rq (fun ν2 v ew f2 => ?_)
    have ew2 : v = bsF n r (22 + 6 * e) (nI e) i := ew
    have fA : Fr 2 μ ν2 := hF.tr (f1.tr ((Fr.up2 hq).tr f2))
    by_cases q : mo < bsF n r (22 + 6 * e) (nI e) i
    · refine brT (show mo < v by rw [ew2]; exact q) ?_
      refine ih (i + 1) _ _ _ _ _ _ (by omega) (by omega) (nI_succ i).symm ?_ fA
      rw [ew2]
      exact bstF_t hb q
    · refine brF (show ¬ mo < v by rw [ew2]; exact q) ?_
      exact ih (i + 1) _ _ _ _ _ _ (by omega) (by omega) (nI_succ i).symm (bstF_f hb q) fA
set_option maxRecDepth 100000 in
theorem T_kindFor {μ : Mem} {k1 : Rtn} {K : Int32 → Rtn} {X : Option Rz} (hI : Inv μ) {d a : Int32} (hm : ∀ z μ1, k1 (some (.int z)) μ1 = S_X5_kindFor [.ref 49, .int d, .int a] μ1 (K z)) (hK : ∀ v w μ2, v = w → Inv μ2 → K v (some (.int w)) μ2 = X) : S_X4_kindFor [.ref 0, .int d, .int a] μ k1 = X := by
  rcases has_cases hI d with ⟨hd, g1, g2, g3⟩ | g1 | ⟨g1, g2, g3⟩
  rotate_left
  · refine unl (bfT rfl ?_)
    repeat' (first | refine brT (by assumption) ?_ | refine brF (by assumption) ?_ | refine br (fun q => ?_) (fun q => ?_))
    all_goals (refine x_tell0 ?_; refine (hm _ _).trans ?_; refine unl (bfT rfl ?_); (repeat' (first | refine brF c10 ?_ | refine brT c00 ?_ | refine brF c01 ?_ | refine brT c11 ?_ | refine brT (by assumption) ?_ | refine brF (by assumption) ?_)); refine e_find0 ?_; exact hK _ _ _ rfl (Inv_tell hI (by decide)))
  · refine unl (bfT rfl ?_)
    repeat' (first | refine brT (by assumption) ?_ | refine brF (by assumption) ?_ | refine br (fun q => ?_) (fun q => ?_))
    all_goals (refine x_tell0 ?_; refine (hm _ _).trans ?_; refine unl (bfT rfl ?_); (repeat' (first | refine brF c10 ?_ | refine brT c00 ?_ | refine brF c01 ?_ | refine brT c11 ?_ | refine brT (by assumption) ?_ | refine brF (by assumption) ?_)); refine e_find0 ?_; exact hK _ _ _ rfl (Inv_tell hI (by decide)))
  by_cases a1 : a < 0
  · refine unl (bfT rfl ?_)
    repeat' (first | refine brT (by assumption) ?_ | refine brF (by assumption) ?_ | refine br (fun q => ?_) (fun q => ?_))
    all_goals (refine x_tell0 ?_; refine (hm _ _).trans ?_; refine unl (bfT rfl ?_); (repeat' (first | refine brF c10 ?_ | refine brT c00 ?_ | refine brF c01 ?_ | refine brT c11 ?_ | refine brT (by assumption) ?_ | refine brF (by assumption) ?_)); refine e_find0 ?_; exact hK _ _ _ rfl (Inv_tell hI (by decide)))
  by_cases a2 : 60 < a
  · refine unl (bfT rfl ?_)
    repeat' (first | refine brT (by assumption) ?_ | refine brF (by assumption) ?_ | refine br (fun q => ?_) (fun q => ?_))
    all_goals (refine x_tell0 ?_; refine (hm _ _).trans ?_; refine unl (bfT rfl ?_); (repeat' (first | refine brF c10 ?_ | refine brT c00 ?_ | refine brF c01 ?_ | refine brT c11 ?_ | refine brT (by assumption) ?_ | refine brF (by assumption) ?_)); refine e_find0 ?_; exact hK _ _ _ rfl (Inv_tell hI (by decide)))
  obtain ⟨n, hn, rfl⟩ := nlt_VB (n := 60) (by decide) a1 a2
  obtain ⟨e, he, rfl⟩ := hd
  have h8 := hI.1.2.n8
  refine unl (bfT rfl ?_)
  repeat' (first | refine brF c10 ?_ | refine brT c00 ?_ | refine brF c01 ?_ | refine brT c11 ?_ | refine brT (by assumption) ?_ | refine brF (by assumption) ?_)
  refine kindX_loop hn he hI.1.2 hI.1.1 (fun ν f2 => ?_) 7 0 _ _ _ _ _ _ (by omega) (Nat.le_of_ble_eq_true rfl) rfl rfl Fr.rf
  refine (hm _ _).trans ?_
  have e9 : ν 50 = μ 50 := f2 50 (by unfold inC; omega)
  have g4 : ¬ ν 50 1 - 1 < nI e := by rw [e9]; exact g3
  refine unl (bfT rfl ?_)
  repeat' (first | refine brF c10 ?_ | refine brT c00 ?_ | refine brF c01 ?_ | refine brT c11 ?_ | refine brT (by assumption) ?_ | refine brF (by assumption) ?_)
  refine e_bestFor (N := 7) (n := n) (a := 22 + 6 * e) rfl rfl (by decide) hn ⟨e, by omega, rfl⟩ (inD (e := e) (g := 0) (by omega) (by decide)) (ixD_cl (d := e) (g := 0) (by omega) (by decide)) (fun v hv => ?_) (fun ν3 hB => ?_)
  · rw [e9]
    exact G1_put (g := 0) hI.1.2 he (by decide) (fun _ => ⟨v, by omega, rfl⟩) (nf rfl) (nf rfl) (nf rfl) (nf rfl)
  · rw [e9]
    exact hK _ _ _ rfl (hB.inv hI f2)
def agF (n : Nat) (r : Nat → Int32) (a e : Nat) (v : Nat) : Int32 := if v = e then -1 else rD (itR n (upf r a (10 * nI e + nI v))) (nI e) 4
theorem bstF_nm {F : Nat → Int32} {b0 : Int32} : ∀ i, ¬ (bstF F b0 i).2 < -1 := by
  intro i
  induction i with
  | zero => show ¬ (-1 : Int32) < -1; decide
  | succ i ih =>
    by_cases h : (bstF F b0 i).2 < F i
    · rw [← bstF_t (b := (bstF F b0 i).1) (mo := (bstF F b0 i).2) rfl h]
      intro q
      exact ih (Int32.lt_trans h q)
    · rw [← bstF_f (b := (bstF F b0 i).1) (mo := (bstF F b0 i).2) rfl h]
      exact ih
theorem bstF_or {F : Nat → Int32} : ∀ i, (bstF F (-1) i).1 = -1 ∨ ∃ j, j < i ∧ (bstF F (-1) i).1 = nI j := by
  intro i
  induction i with
  | zero => exact Or.inl rfl
  | succ i ih =>
    by_cases h : (bstF F (-1) i).2 < F i
    · rw [← bstF_t (b := (bstF F (-1) i).1) (mo := (bstF F (-1) i).2) rfl h]
      exact Or.inr ⟨i, by omega, rfl⟩
    · rw [← bstF_f (b := (bstF F (-1) i).1) (mo := (bstF F (-1) i).2) rfl h]
      rcases ih with q | ⟨j, hj, q⟩
      · exact Or.inl q
      · exact Or.inr ⟨j, by omega, q⟩
theorem bstF_sk {F : Nat → Int32} {b0 b mo : Int32} {i : Nat} (hb : (b, mo) = bstF F b0 i) (h : F i = -1) : (b, mo) = bstF F b0 (i + 1) := by
  refine bstF_f hb ?_
  rw [h]
  have := bstF_nm (F := F) (b0 := b0) i
  rw [← hb] at this
  exact this
theorem G1_l {r : Nat → Int32} (hG : G1 r) {t : Nat} (ht : t < 6) (v : Int32) : G1 (upf r (6 + t) v) := G1_own hG (by omega) (by omega) (fun q => by omega) (fun q => by omega) (fun q => by omega)
set_option maxRecDepth 100000 in
theorem againstM_loop {k : Rtn} {X : Option Rz} {μ : Mem} {w0 at0 : Int32} {n t e : Nat} (ht : t < 6) (hn : n ≤ 60) (he : e < (μ 50 1).toNatClampNeg) (ea : at0 = nI (6 + t)) (hG : G1 (μ 50)) (e0 : w0 = μ 50 (6 + t)) (hk : ∀ ν, Back μ ν → ¬ (bstF (agF n (μ 50) (6 + t) e) (-1) (μ 50 1).toNatClampNeg).1 = -1 → k (some (.int (bstF (agF n (μ 50) (6 + t) e) (-1) (μ 50 1).toNatClampNeg).1)) ν = X) (hk2 : ∀ ν, Back μ ν → (bstF (agF n (μ 50) (6 + t) e) (-1) (μ 50 1).toNatClampNeg).1 = -1 → k (some (.int (-1000004))) (fndM ν 3) = X) :
    ∀ (m i f : Nat) (x b mo u : Int32) (w : Option Value) (ν : Mem), i + m = (μ 50 1).toNatClampNeg → 90 * m + 90 ≤ f → x = nI i → (b, mo) = bstF (agF n (μ 50) (6 + t) e) (-1) i → (∀ j, ¬ j = 50 → ¬ j = 52 → ν j = μ j) → ν 50 = upf (μ 50) (6 + t) u → lockO (oILd 7 54) 0 (runK P_X5_against f k) k [some (.ref 49), some (.int (nI e)), some (.int (nI n)), some (.int at0), some (.int w0), some (.int b), some (.int mo), some (.int x), w] [] ν = X := by
  have h8 := hG.n8
  have n1 := hG.n1
  have hx : dI (nI e) := ⟨e, by omega, rfl⟩
  have ei : at0.toNatClampNeg = 6 + t := by rw [ea, nI_cl (by omega)]
  have ha : inB at0 70 = true := by rw [ea]; exact inB_nI (by omega) (by decide)
  intro m
  induction m with
  | zero =>
    intro i f x b mo u w ν hi hf hxx hb hN hV
    have e9 : i = (μ 50 1).toNatClampNeg := by omega
    subst hxx
    obtain ⟨F, rfl⟩ : ∃ F, f = F + 90 := ⟨f - 90, by omega⟩
    have hc : ¬ nI i < ν 50 1 := by
      rw [hV, upf_ne _ _ (by omega), n1, ← e9]
      exact nI_nlt (Nat.le_refl i) (by omega)
    rw [← e9, ← hb] at hk hk2
    have hor := bstF_or (F := agF n (μ 50) (6 + t) e) i
    rw [← hb] at hor
    have hBk : Back μ (up2 ν 50 at0.toNatClampNeg w0) := nb_back (a := 6 + t) (nb_put hN) (by rw [← e0]; exact v_putI ei hV)
    refine unO ?_
    refine brF hc ?_
    refine (@bfT _ _ _ _ _ (ha)) ?_
    rcases hor with q | ⟨j, hj, q⟩
    · have q' : b = -1 := q
      subst q'
      refine e_find3 ?_
      exact hk2 _ hBk rfl
    · have q' : b = nI j := q
      subst q'
      refine brF (nI_nl (n := j) (by omega)) ?_
      refine hk _ hBk ?_
      intro z
      have z2 : nI j = -1 := z
      exact nI_nl (n := j) (by omega) (by rw [z2]; decide)
  | succ m ih =>
    intro i f x b mo u w ν hi hf hxx hb hN hV
    subst hxx
    obtain ⟨F, rfl⟩ : ∃ F, f = F + 90 := ⟨f - 90, by omega⟩
    have hc : nI i < ν 50 1 := by
      rw [hV, upf_ne _ _ (by omega), n1]
      exact nI_lt (by omega) (by omega)
    have hV1 : up2 ν 50 at0.toNatClampNeg (10 * nI e + nI i) 50 = upf (μ 50) (6 + t) (10 * nI e + nI i) := v_putI ei hV
    have hN1 : ∀ j, ¬ j = 50 → ¬ j = 52 → up2 ν 50 at0.toNatClampNeg (10 * nI e + nI i) j = μ j := nb_put hN
    refine unO ?_
    refine brT hc ?_
    refine (@bfT _ _ _ _ _ (ha)) ?_
    by_cases qe : i = e
    · refine brT (show nI i = nI e by rw [qe]) ?_
      have qf : agF n (μ 50) (6 + t) e i = -1 := by unfold agF; rw [if_pos qe]
      have hb2 := bstF_sk hb qf
      have nm : ¬ mo < -1 := by
        have := bstF_nm (F := agF n (μ 50) (6 + t) e) (b0 := -1) i
        rw [← hb] at this
        exact this
      refine brF nm ?_
      exact ih (i + 1) _ _ _ _ (10 * nI e + nI i) _ _ (by omega) (by omega) (nI_succ i).symm hb2 hN1 hV1
    · refine brF (show ¬ nI i = nI e by rw [nI_eq (by omega) (by omega)]; exact qe) ?_
      refine e_behind (μ := up2 ν 50 at0.toNatClampNeg (10 * nI e + nI i)) (dI_in hx f4) (show n ≤ 200 by omega) rfl (by rw [hV1]; exact G1_l hG ht _) (fun ν2 v ew b2 => ?_)
      rw [hV1] at ew
      have ew2 : v = agF n (μ 50) (6 + t) e i := by unfold agF; rw [if_neg qe]; exact ew
      have hV2 : ν2 50 = upf (μ 50) (6 + t) (10 * nI e + nI i) := (b2 50 (by decide)).trans hV1
      by_cases q : mo < agF n (μ 50) (6 + t) e i
      · refine brT (show mo < v by rw [ew2]; exact q) ?_
        refine ih (i + 1) _ _ _ _ (10 * nI e + nI i) _ _ (by omega) (by omega) (nI_succ i).symm ?_ (nb_bk hN1 b2) hV2
        rw [ew2]
        exact bstF_t hb q
      · refine brF (show ¬ mo < v by rw [ew2]; exact q) ?_
        exact ih (i + 1) _ _ _ _ (10 * nI e + nI i) _ _ (by omega) (by omega) (nI_succ i).symm (bstF_f hb q) (nb_bk hN1 b2) hV2
set_option maxRecDepth 100000 in
theorem e_against {μ : Mem} {k : Rtn} {X : Option Rz} {n t e : Nat} (ht : t < 6) (hn : n ≤ 60) (he : e < (μ 50 1).toNatClampNeg) (ea : (6 : Int32) + ra (μ 50) 0 % 6 = nI (6 + t)) (hG : G1 (μ 50)) (hk : ∀ ν, Back μ ν → ¬ (bstF (agF n (μ 50) (6 + t) e) (-1) (μ 50 1).toNatClampNeg).1 = -1 → k (some (.int (bstF (agF n (μ 50) (6 + t) e) (-1) (μ 50 1).toNatClampNeg).1)) ν = X) (hk2 : ∀ ν, Back μ ν → (bstF (agF n (μ 50) (6 + t) e) (-1) (μ 50 1).toNatClampNeg).1 = -1 → k (some (.int (-1000004))) (fndM ν 3) = X) : S_X5_against [.ref 49, .int (nI e), .int (nI n)] μ k = X := by
  have h8 := hG.n8
  have hd : hasR (μ 50) (nI e) := ⟨e, he, rfl⟩
  have g1 : ¬ nI e < 0 := hd.nn hG
  have g3 : ¬ μ 50 1 - 1 < nI e := has_nl hd hG
  have n1 : ¬ nI n < 0 := nI_nl (by omega)
  have n2 : ¬ 60 < nI n := nI_nlt (a := 60) (b := n) hn (by decide)
  have ha : inB ((6 : Int32) + ra (μ 50) 0 % 6) 70 = true := by rw [ea]; exact inB_nI (by omega) (by decide)
  have ei : ((6 : Int32) + ra (μ 50) 0 % 6).toNatClampNeg = 6 + t := by rw [ea, nI_cl (by omega)]
  refine unl (bfT rfl ?_)
  repeat' (first | refine brF c10 ?_ | refine brT c00 ?_ | refine brF c01 ?_ | refine brT c11 ?_ | refine brT (by assumption) ?_ | refine brF (by assumption) ?_)
  refine (@bfT _ _ _ _ _ (ha)) ?_
  exact againstM_loop (w0 := μ 50 ((6 : Int32) + ra (μ 50) 0 % 6).toNatClampNeg) ht hn he ea hG (by rw [ei]) hk hk2 (μ 50 1).toNatClampNeg 0 _ _ _ _ (μ 50 (6 + t)) _ _ (by omega) (fu (by omega) rfl) rfl rfl (fun _ _ _ => rfl) (upf_id _ _).symm
set_option maxRecDepth 100000 in
theorem againstX_loop {k : Rtn} {X : Option Rz} {μ : Mem} {r : Nat → Int32} {n t e : Nat} (ht : t < 6) (hn : n ≤ 60) (he : e < (r 1).toNatClampNeg) (ea : r 0 % 6 = nI t) (hG : G1 r) (hR0 : Rep μ 1 r) (hk : ∀ ν, Fr 2 μ ν → ¬ (bstF (agF n r (6 + t) e) (-1) (r 1).toNatClampNeg).1 = -1 → k (some (.int (bstF (agF n r (6 + t) e) (-1) (r 1).toNatClampNeg).1)) ν = X) (hk2 : ∀ ν, Fr 2 μ ν → (bstF (agF n r (6 + t) e) (-1) (r 1).toNatClampNeg).1 = -1 → k (some (.int (-1000004))) (telM ν 3) = X) :
    ∀ (m i f : Nat) (x b mo : Int32) (w : Option Value) (ν : Mem), i + m = (r 1).toNatClampNeg → 90 * m + 90 ≤ f → x = nI i → (b, mo) = bstF (agF n r (6 + t) e) (-1) i → Fr 2 μ ν → lockO (oILd 5 38) 0 (runK P_X4_against f k) k [some (.ref 0), some (.int (nI e)), some (.int (nI n)), some (.int b), some (.int mo), some (.int x), w] [] ν = X := by
  have h8 := hG.n8
  have n1 := hG.n1
  have hx : dI (nI e) := ⟨e, by omega, rfl⟩
  intro m
  induction m with
  | zero =>
    intro i f x b mo w ν hi hf hxx hb hF
    have e9 : i = (r 1).toNatClampNeg := by omega
    subst hxx
    obtain ⟨F, rfl⟩ : ∃ F, f = F + 90 := ⟨f - 90, by omega⟩
    have hc : ¬ nI i < ν 1 7 := by
      rw [(rep21 hR0 hG hF).1.2.1, n1, ← e9]
      exact nI_nlt (Nat.le_refl i) (by omega)
    rw [← e9, ← hb] at hk hk2
    refine unO ?_
    refine brF hc ?_
    by_cases q : b = -1
    · refine brT q ?_
      refine x_tell3 ?_
      exact hk2 _ hF q
    · refine brF q ?_
      exact hk _ hF q
  | succ m ih =>
    intro i f x b mo w ν hi hf hxx hb hF
    subst hxx
    obtain ⟨F, rfl⟩ : ∃ F, f = F + 90 := ⟨f - 90, by omega⟩
    have hc : nI i < ν 1 7 := by
      rw [(rep21 hR0 hG hF).1.2.1, n1]
      exact nI_lt (by omega) (by omega)
    refine unO ?_
    refine brT hc ?_
    by_cases qe : i = e
    · refine brT (show nI i = nI e by rw [qe]) ?_
      have qf : agF n r (6 + t) e i = -1 := by unfold agF; rw [if_pos qe]
      exact ih (i + 1) _ _ _ _ _ _ (by omega) (by omega) (nI_succ i).symm (bstF_sk hb qf) hF
    · refine brF (show ¬ nI i = nI e by rw [nI_eq (by omega) (by omega)]; exact qe) ?_
      refine x_bec_21 (rep21 hR0 hG hF) hG (fun ν1 r1 f1 => ?_)
      refine (@bfT _ _ _ _ _ (LX_in r1 hG)) ?_
      have e3 : ν1 2 3 = r 0 := r1.1.1
      have et : (ν1 2 3 % 6).toNatClampNeg = t := by rw [e3, ea, nI_cl (by omega)]
      have rq : Rep (up2 ν1 5 (ν1 2 3 % 6).toNatClampNeg (10 * nI e + nI i)) 2 (upf r (6 + t) (10 * nI e + nI i)) := by
        rw [et]; exact rep_list (c := 2) ⟨by decide, by decide⟩ r1 ht
      refine x_tr hn rfl (has_up (by omega) ⟨e, he, rfl⟩) (G1_l hG ht _) rq (fun ν2 v ew f2 => ?_)
      have ew2 : v = agF n r (6 + t) e i := by unfold agF; rw [if_neg qe]; exact ew
      have fA : Fr 2 μ ν2 := hF.tr (f1.tr ((Fr.up2 (Or.inr (Or.inl rfl))).tr f2))
      by_cases q : mo < agF n r (6 + t) e i
      · refine brT (show mo < v by rw [ew2]; exact q) ?_
        refine ih (i + 1) _ _ _ _ _ _ (by omega) (by omega) (nI_succ i).symm ?_ fA
        rw [ew2]
        exact bstF_t hb q
      · refine brF (show ¬ mo < v by rw [ew2]; exact q) ?_
        exact ih (i + 1) _ _ _ _ _ _ (by omega) (by omega) (nI_succ i).symm (bstF_f hb q) fA
set_option maxRecDepth 100000 in
theorem T_against {μ : Mem} {k1 : Rtn} {K : Int32 → Rtn} {X : Option Rz} (hI : Inv μ) {d a : Int32} (hm : ∀ z μ1, k1 (some (.int z)) μ1 = S_X5_against [.ref 49, .int d, .int a] μ1 (K z)) (hK : ∀ v w μ2, v = w → Inv μ2 → K v (some (.int w)) μ2 = X) : S_X4_against [.ref 0, .int d, .int a] μ k1 = X := by
  rcases has_cases hI d with ⟨hd, g1, g2, g3⟩ | g1 | ⟨g1, g2, g3⟩
  rotate_left
  · refine unl (bfT rfl ?_)
    repeat' (first | refine brT (by assumption) ?_ | refine brF (by assumption) ?_ | refine br (fun q => ?_) (fun q => ?_))
    all_goals (refine x_tell0 ?_; refine (hm _ _).trans ?_; refine unl (bfT rfl ?_); (repeat' (first | refine brF c10 ?_ | refine brT c00 ?_ | refine brF c01 ?_ | refine brT c11 ?_ | refine brT (by assumption) ?_ | refine brF (by assumption) ?_)); refine e_find0 ?_; exact hK _ _ _ rfl (Inv_tell hI (by decide)))
  · refine unl (bfT rfl ?_)
    repeat' (first | refine brT (by assumption) ?_ | refine brF (by assumption) ?_ | refine br (fun q => ?_) (fun q => ?_))
    all_goals (refine x_tell0 ?_; refine (hm _ _).trans ?_; refine unl (bfT rfl ?_); (repeat' (first | refine brF c10 ?_ | refine brT c00 ?_ | refine brF c01 ?_ | refine brT c11 ?_ | refine brT (by assumption) ?_ | refine brF (by assumption) ?_)); refine e_find0 ?_; exact hK _ _ _ rfl (Inv_tell hI (by decide)))
  by_cases a1 : a < 0
  · refine unl (bfT rfl ?_)
    repeat' (first | refine brT (by assumption) ?_ | refine brF (by assumption) ?_ | refine br (fun q => ?_) (fun q => ?_))
    all_goals (refine x_tell0 ?_; refine (hm _ _).trans ?_; refine unl (bfT rfl ?_); (repeat' (first | refine brF c10 ?_ | refine brT c00 ?_ | refine brF c01 ?_ | refine brT c11 ?_ | refine brT (by assumption) ?_ | refine brF (by assumption) ?_)); refine e_find0 ?_; exact hK _ _ _ rfl (Inv_tell hI (by decide)))
  by_cases a2 : 60 < a
  · refine unl (bfT rfl ?_)
    repeat' (first | refine brT (by assumption) ?_ | refine brF (by assumption) ?_ | refine br (fun q => ?_) (fun q => ?_))
    all_goals (refine x_tell0 ?_; refine (hm _ _).trans ?_; refine unl (bfT rfl ?_); (repeat' (first | refine brF c10 ?_ | refine brT c00 ?_ | refine brF c01 ?_ | refine brT c11 ?_ | refine brT (by assumption) ?_ | refine brF (by assumption) ?_)); refine e_find0 ?_; exact hK _ _ _ rfl (Inv_tell hI (by decide)))
  obtain ⟨n, hn, rfl⟩ := nlt_VB (n := 60) (by decide) a1 a2
  obtain ⟨e, he, rfl⟩ := hd
  obtain ⟨t, ht, t1, t2⟩ := hI.1.2.t6
  have h8 := hI.1.2.n8
  refine unl (bfT rfl ?_)
  repeat' (first | refine brF c10 ?_ | refine brT c00 ?_ | refine brF c01 ?_ | refine brT c11 ?_ | refine brT (by assumption) ?_ | refine brF (by assumption) ?_)
  refine againstX_loop ht hn he t1 hI.1.2 hI.1.1 (fun ν f2 hj => ?_) (fun ν f2 hj => ?_) (μ 50 1).toNatClampNeg 0 _ _ _ _ _ _ (by omega) (fu (by omega) rfl) rfl rfl Fr.rf
  · refine (hm _ _).trans ?_
    have e9 : ν 50 = μ 50 := f2 50 (by unfold inC; omega)
    rw [← e9] at hj he t2 ⊢
    refine e_against ht hn he t2 (by rw [e9]; exact hI.1.2) (fun ν3 hB _ => ?_) (fun ν3 hB q => ?_)
    · exact hK _ _ _ rfl (hB.inv hI f2)
    · exact absurd q hj
  · refine (hm _ _).trans ?_
    have e9 : (telM ν 3) 50 = μ 50 := f2 50 (by unfold inC; omega)
    rw [← e9] at hj he t2
    refine e_against ht hn he t2 (by rw [e9]; exact hI.1.2) (fun ν3 hB q => ?_) (fun ν3 hB _ => ?_)
    · exact absurd hj q
    · exact hK _ _ _ rfl (Inv_tb hI f2 hB (by decide))
