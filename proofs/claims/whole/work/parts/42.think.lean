/-! how to drop: thoughts -/
theorem ua_hi {r : Nat → Int32} {x f : Int32} {v : Int32} (hx : dI x) (hf : fI f) {j : Nat} (hj : 70 ≤ j) : ua r (22 + 6 * x + f) v j = r j := by
  obtain ⟨d, hd, rfl⟩ := hx
  obtain ⟨g, hg, rfl⟩ := hf
  unfold ua
  rw [ixD_cl hd hg]
  exact upf_ne _ _ (by omega)
theorem coolR_hi {r : Nat → Int32} (d : Nat) (hd : d ≤ 8) {j : Nat} (hj : 70 ≤ j) : coolR d r j = r j := by
  induction d with
  | zero => rfl
  | succ d ih =>
    unfold coolR
    rw [ua_hi ⟨d, by omega, rfl⟩ f2 hj]
    exact ih (by omega)
theorem foundR_hi {r : Nat → Int32} {w o : Int32} (hw : dI w) (ho : dI o) {j : Nat} (hj : 70 ≤ j) : foundR r w o j = r j := by
  unfold foundR
  rw [ua_hi ho f4 hj, ua_hi hw f1 hj, ua_hi hw f2 hj, ua_hi hw f3 hj]
theorem settlesR_hi {r : Nat → Int32} {a b : Int32} (ha : dI a) (hb : dI b) {j : Nat} (hj : 70 ≤ j) : settlesR r a b j = r j := by
  unfold settlesR
  split
  · exact upf_ne _ _ (show ¬ j = 5 by omega)
  · rename_i h0
    split
    · exact foundR_hi (loserH_dI ha hb h0) hb hj
    · exact foundR_hi (loserH_dI ha hb h0) ha hj
theorem dropsR1_hi {r : Nat → Int32} (hG : G0 r) {j : Nat} (hj : 70 ≤ j) : dropsR1 r j = r j := by
  unfold dropsR1
  by_cases h : foI r = 0
  · rw [if_pos h]
    exact settlesR_hi (fo_two hG h).1 (fo_two hG h).2.1 hj
  · rw [if_neg h]
theorem dropR_hi {r : Nat → Int32} (hG : G1 r) {j : Nat} (hj : 70 ≤ j) : dropR r j = r j := by
  show upf (coolR (ra r 1).toNatClampNeg (dropsR1 r)) 0 _ j = r j
  rw [upf_ne _ _ (by omega), coolR_hi (ra r 1).toNatClampNeg hG.n8 hj, dropsR1_hi hG.g0 hj]
theorem it_hi {r : Nat → Int32} (hG : G1 r) (n : Nat) {j : Nat} (hj : 70 ≤ j) : itR n r j = r j := by
  induction n with
  | zero => rfl
  | succ n ih => exact (dropR_hi (G1_it hG n) hj).trans ih
set_option maxRecDepth 100000 in
theorem e_behind {μ : Mem} {k : Rtn} {X : Option Rz} {pl y : Int32} {n : Nat} (hp : inB pl 70 = true) (hn : n ≤ 200) (hy : y = nI n) (hG : G1 (μ 50)) (hk : ∀ ν w, w = ra (itR n (μ 50)) pl → (∀ i, ¬ i = 52 → ν i = μ i) → k (some (.int w)) ν = X) : S_X5_behind [.ref 49, .int pl, .int y] μ k = X := by
  refine unl (bfT rfl ?_)
  refine e_copy_50_52 (fun μ1 e1 => ?_)
  have e50 : μ1 50 = μ 50 := by rw [e1]; exact up1_ne _ _ (by decide)
  refine e_dropsGo hn hy (by rw [e50]; exact hG) (fun μ2 e2 => ?_)
  refine (@bfT _ _ _ _ _ (hp)) ?_
  refine e_putBack (fun μ3 e3 => ?_)
  have e : μ2 50 = itR n (μ 50) := by rw [e2, up1_at, e50]
  refine hk _ _ (congrFun e _) (fun i hi => ?_)
  by_cases q : i = 50
  · subst q
    rw [e3, up1_at, e]
    have e52 : μ2 52 = cpI 70 (μ 50) (μ 52) := by rw [e2, up1_ne _ _ (by decide), e1, up1_at]
    rw [e52]
    funext j
    by_cases hj : j < 70
    · rw [cpI_lt hj, cpI_lt hj]
    · unfold cpI
      rw [if_neg hj]
      exact it_hi hG n (by omega)
  · rw [e3, up1_ne _ _ q, e2, up1_ne _ _ q, e1, up1_ne _ _ hi]
theorem upf_tw (f : Nat → Int32) (a : Nat) (v w : Int32) : upf (upf f a v) a w = upf f a w := by
  funext j
  unfold upf
  cases Nat.beq j a <;> rfl
theorem upf_id (f : Nat → Int32) (a : Nat) : upf f a (f a) = f := by
  funext j
  by_cases e : j = a
  · subst e; exact upf_at _ _ _
  · exact upf_ne _ _ e
theorem nb_put {μ ν : Mem} {a : Nat} {v : Int32} (h : ∀ i, ¬ i = 50 → ¬ i = 52 → ν i = μ i) : ∀ i, ¬ i = 50 → ¬ i = 52 → up2 ν 50 a v i = μ i := fun i p q => (up2_ne _ _ p).trans (h i p q)
theorem nb_bk {μ ν ν' : Mem} (h : ∀ i, ¬ i = 50 → ¬ i = 52 → ν i = μ i) (h2 : ∀ i, ¬ i = 52 → ν' i = ν i) : ∀ i, ¬ i = 50 → ¬ i = 52 → ν' i = μ i := fun i p q => (h2 i q).trans (h i p q)
theorem v_put {μ ν : Mem} {a : Nat} {u w : Int32} (h : ν 50 = upf (μ 50) a u) : up2 ν 50 a w 50 = upf (μ 50) a w := by
  rw [up2_at, h, upf_tw]
theorem v_putI {μ ν : Mem} {a : Nat} {j u w : Int32} (ej : j.toNatClampNeg = a) (h : ν 50 = upf (μ 50) a u) : up2 ν 50 j.toNatClampNeg w 50 = upf (μ 50) a w := by
  rw [ej]; exact v_put h
theorem nb_back {μ ν : Mem} {a : Nat} (h : ∀ i, ¬ i = 50 → ¬ i = 52 → ν i = μ i) (hV : ν 50 = upf (μ 50) a (μ 50 a)) : Back μ ν := by
  refine ⟨h, fun i _ => ?_⟩
  rw [hV, upf_id]
theorem has_lt {r : Nat → Int32} {x : Int32} (h : hasR r x) (hG : G1 r) : x < r 1 := by
  obtain ⟨d, hd, rfl⟩ := h
  have h8 := hG.n8
  rw [hG.n1]
  exact nI_lt hd (by omega)
theorem has_nl {r : Nat → Int32} {x : Int32} (h : hasR r x) (hG : G1 r) : ¬ r 1 - 1 < x := (hG.lt x).mp (has_lt h hG)
theorem foundN_w {r : Nat → Int32} {w o d : Nat} : foundN r w o (22 + 6 * d + 3) = r (22 + 6 * d + 3) ∨ foundN r w o (22 + 6 * d + 3) = minI 9999 (r (22 + 6 * d + 3) + 1) := by
  unfold foundN
  rw [upf_ne _ _ (by omega), upf_ne _ _ (by omega), upf_ne _ _ (by omega)]
  by_cases e : d = w
  · subst e; rw [upf_at]; exact Or.inr rfl
  · rw [upf_ne _ _ (by omega)]; exact Or.inl rfl
theorem settles_w {r : Nat → Int32} (hG : G1 r) {a b : Int32} (ha : hasR r a) (hb : hasR r b) {d : Nat} : settlesR r a b (22 + 6 * d + 3) = r (22 + 6 * d + 3) ∨ settlesR r a b (22 + 6 * d + 3) = minI 9999 (r (22 + 6 * d + 3) + 1) := by
  have h8 := hG.n8
  unfold settlesR
  rcases loserH_or (h := ra r 3) (r := r) (a := a) (b := b) with e | e | e
  · rw [e, if_pos (by decide)]
    exact Or.inl (upf_ne _ _ (show ¬ 22 + 6 * d + 3 = 5 by omega))
  · rw [e, if_neg (ha.nn hG), if_pos rfl]
    obtain ⟨w, hw, rfl⟩ := ha
    obtain ⟨o, ho, rfl⟩ := hb
    rw [foundR_n (by omega) (by omega)]
    exact foundN_w
  · rw [e, if_neg (hb.nn hG)]
    obtain ⟨w, hw, rfl⟩ := ha
    obtain ⟨o, ho, rfl⟩ := hb
    split
    · rw [foundR_n (by omega) (by omega)]
      exact foundN_w
    · rw [foundR_n (by omega) (by omega)]
      exact foundN_w
theorem drops1_w {r : Nat → Int32} (hG : G1 r) {d : Nat} : dropsR1 r (22 + 6 * d + 3) = r (22 + 6 * d + 3) ∨ dropsR1 r (22 + 6 * d + 3) = minI 9999 (r (22 + 6 * d + 3) + 1) := by
  unfold dropsR1
  by_cases h : foI r = 0
  · rw [if_pos h]
    exact settles_w hG (fo_has hG h).1 (fo_has hG h).2.1
  · rw [if_neg h]; exact Or.inl rfl
theorem cool_w {r : Nat → Int32} {d : Nat} : ∀ i, i ≤ 8 → coolR i r (22 + 6 * d + 3) = r (22 + 6 * d + 3) := by
  intro i
  induction i with
  | zero => intro _; rfl
  | succ i ih =>
    intro h
    rw [coolR_s (by omega), upf_ne _ _ (by omega)]
    exact ih (by omega)
theorem drop_w {r : Nat → Int32} (hG : G1 r) {d : Nat} : dropR r (22 + 6 * d + 3) = r (22 + 6 * d + 3) ∨ dropR r (22 + 6 * d + 3) = minI 9999 (r (22 + 6 * d + 3) + 1) := by
  have e : dropR r (22 + 6 * d + 3) = dropsR1 r (22 + 6 * d + 3) := by
    show upf (coolR (ra r 1).toNatClampNeg (dropsR1 r)) 0 _ (22 + 6 * d + 3) = _
    rw [upf_ne _ _ (by omega)]
    exact cool_w _ hG.n8
  rw [e]
  exact drops1_w hG
theorem drop_mono {r : Nat → Int32} (hG : G1 r) {d : Nat} (hd : d < (r 1).toNatClampNeg) : ∃ a b : Nat, a ≤ b ∧ b ≤ 9999 ∧ r (22 + 6 * d + 3) = nI a ∧ dropR r (22 + 6 * d + 3) = nI b := by
  obtain ⟨-, -, -, ⟨a, ha, e⟩, -⟩ := hG.2.2 d hd
  rcases drop_w hG (d := d) with q | q
  · exact ⟨a, a, Nat.le_refl _, ha, e, q.trans e⟩
  · refine ⟨a, min 9999 (a + 1), by omega, by omega, e, ?_⟩
    rw [q, e, nI_1, show (9999 : Int32) = nI 9999 from rfl, minI_n _ _ (by omega) (by omega)]
theorem it_mono {r : Nat → Int32} (hG : G1 r) {d : Nat} (hd : d < (r 1).toNatClampNeg) (m : Nat) : ∀ j, ∃ a b : Nat, a ≤ b ∧ b ≤ 9999 ∧ itR m r (22 + 6 * d + 3) = nI a ∧ itR (m + j) r (22 + 6 * d + 3) = nI b := by
  intro j
  induction j with
  | zero =>
    obtain ⟨-, -, -, ⟨a, ha, e⟩, -⟩ := (G1_it hG m).2.2 d (by rw [it_1 hG m]; exact hd)
    exact ⟨a, a, Nat.le_refl _, ha, e, e⟩
  | succ j ih =>
    obtain ⟨a, b, h1, h2, h3, h4⟩ := ih
    obtain ⟨b', c, g1, g2, g3, g4⟩ := drop_mono (G1_it hG (m + j)) (d := d) (by rw [it_1 hG (m + j)]; exact hd)
    have eb : b = b' := (nI_eq (by omega) (by omega)).mp (h4.symm.trans g3)
    exact ⟨a, c, by omega, g2, h3, g4⟩
theorem it_stuck {r : Nat → Int32} (hG : G1 r) {d : Int32} (hd : hasR r d) {m n : Nat} (h : m ≤ n) (hne : ¬ rD (itR m r) d 3 = rD r d 3) : ¬ rD (itR n r) d 3 = rD r d 3 := by
  obtain ⟨e, he, rfl⟩ := hd
  have h8 := hG.n8
  have q : ∀ s : Nat → Int32, rD s (nI e) 3 = s (22 + 6 * e + 3) := fun s => rD_n s (g := 3) (by omega) (by decide)
  rw [q, q] at hne
  rw [q, q]
  obtain ⟨a, b, h1, h2, h3, h4⟩ := it_mono hG he 0 m
  obtain ⟨b', c, g1, g2, g3, g4⟩ := it_mono hG he m (n - m)
  rw [Nat.zero_add] at h4
  rw [show m + (n - m) = n by omega] at g4
  have h3' : r (22 + 6 * e + 3) = nI a := h3
  have eb : b = b' := (nI_eq (by omega) (by omega)).mp (h4.symm.trans g3)
  rw [h4, h3', nI_eq (by omega) (by omega)] at hne
  rw [g4, h3', nI_eq (by omega) (by omega)]
  omega
set_option maxRecDepth 100000 in
theorem tlw_loop {k : Rtn} {X : Option Rz} {μ : Mem} {d h0 : Int32} {r : Nat → Int32} {n : Nat} (hn : n ≤ 60) (hd : hasR r d) (hG : G1 r) (e0 : h0 = rD r d 3) (hk : ∀ ν w, w = (if rD (itR n r) d 3 = rD r d 3 then 1 else 0) → Fr 2 μ ν → k (some (.int w)) ν = X) :
    ∀ (m i f : Nat) (x : Int32) (ν : Mem), i + m = n → 60 * m + 60 ≤ f → x = nI i → Rep ν 2 (itR i r) → Fr 2 μ ν → lockO (oILd 5 21) 0 (runK P_X4_trialLeavesWrong f k) k [some (.ref 0), some (.int d), some (.int (nI n)), some (.ref (21 + d.toNatClampNeg)), some (.int h0), some (.int x)] [] ν = X := by
  have hx := hd.dI hG
  intro m
  induction m with
  | zero =>
    intro i f x ν hi hf hxx hR hF
    have ei : i = n := by omega
    subst hxx; subst ei
    obtain ⟨F, rfl⟩ : ∃ F, f = F + 60 := ⟨f - 60, by omega⟩
    have ew : ν (21 + d.toNatClampNeg) 3 = rD (itR i r) d 3 := rep_at hR (G1_it hG i) (hasR_it hG hd i) (g := 3) (by decide)
    refine unO ?_
    refine brF (nI_nlt (Nat.le_refl i) (by omega)) ?_
    refine (@bfT _ _ _ _ _ (kdq_2 hx)) ?_
    by_cases q : rD (itR i r) d 3 = rD r d 3
    · refine brT (ew.trans (q.trans e0.symm)) ?_
      exact hk _ _ (by rw [if_pos q]) hF
    · refine brF (fun z => q (ew.symm.trans (z.trans e0))) ?_
      exact hk _ _ (by rw [if_neg q]) hF
  | succ m ih =>
    intro i f x ν hi hf hxx hR hF
    subst hxx
    obtain ⟨F, rfl⟩ : ∃ F, f = F + 60 := ⟨f - 60, by omega⟩
    have ew : ν (21 + d.toNatClampNeg) 3 = rD (itR i r) d 3 := rep_at hR (G1_it hG i) (hasR_it hG hd i) (g := 3) (by decide)
    refine unO ?_
    refine brT (nI_lt (a := i) (b := n) (by omega) (by omega)) ?_
    refine (@bfT _ _ _ _ _ (kdq_2 hx)) ?_
    by_cases q : rD (itR i r) d 3 = rD r d 3
    · refine brT (ew.trans (q.trans e0.symm)) ?_
      refine x_drop_2 hR (G1_it hG i) (fun μ1 r1 f1 => ?_)
      exact ih (i + 1) _ _ _ (by omega) (by omega) (nI_succ i).symm r1 (hF.tr f1)
    · refine brF (fun z => q (ew.symm.trans (z.trans e0))) ?_
      refine (@bfT _ _ _ _ _ (kdq_2 hx)) ?_
      refine brF (fun z => q (ew.symm.trans (z.trans e0))) ?_
      exact hk _ _ (by rw [if_neg (it_stuck hG hd (show i ≤ n by omega) q)]) hF
set_option maxRecDepth 100000 in
theorem x_tlw {μ : Mem} {k : Rtn} {X : Option Rz} {d y : Int32} {r : Nat → Int32} {n : Nat} (hn : n ≤ 60) (hy : y = nI n) (hd : hasR r d) (hG : G1 r) (hR : Rep μ 2 r) (hk : ∀ ν w, w = (if rD (itR n r) d 3 = rD r d 3 then 1 else 0) → Fr 2 μ ν → k (some (.int w)) ν = X) : S_X4_trialLeavesWrong [.ref 0, .int d, .int y] μ k = X := by
  subst hy
  have hx := hd.dI hG
  have ew : μ (21 + d.toNatClampNeg) 3 = rD r d 3 := rep_at hR hG hd (g := 3) (by decide)
  refine unl (bfT rfl ?_)
  refine (@bfT _ _ _ _ _ (in8 hx)) ?_
  refine (@bfT _ _ _ _ _ (kdq_2 hx)) ?_
  exact tlw_loop hn hd hG ew hk n 0 _ _ _ (by omega) (Nat.le_trans (show 60 * n + 60 ≤ 3660 by omega) (Nat.le_of_ble_eq_true rfl)) rfl hR Fr.rf
set_option maxRecDepth 100000 in
theorem tr_loop {k : Rtn} {X : Option Rz} {μ : Mem} {d : Int32} {r : Nat → Int32} {n : Nat} (hn : n ≤ 60) (hd : hasR r d) (hG : G1 r) (hk : ∀ ν w, w = rD (itR n r) d 4 → Fr 2 μ ν → k (some (.int w)) ν = X) :
    ∀ (m i f : Nat) (x : Int32) (ν : Mem), i + m = n → 40 * m + 40 ≤ f → x = nI i → Rep ν 2 (itR i r) → Fr 2 μ ν → lockO (oILd 3 3) 0 (runK P_X4_trialRight f k) k [some (.ref 0), some (.int d), some (.int (nI n)), some (.int x)] [] ν = X := by
  have hx := hd.dI hG
  intro m
  induction m with
  | zero =>
    intro i f x ν hi hf hxx hR hF
    have ei : i = n := by omega
    subst hxx; subst ei
    obtain ⟨F, rfl⟩ : ∃ F, f = F + 40 := ⟨f - 40, by omega⟩
    have ew : ν (21 + d.toNatClampNeg) 4 = rD (itR i r) d 4 := rep_at hR (G1_it hG i) (hasR_it hG hd i) (g := 4) (by decide)
    refine unO ?_
    refine brF (nI_nlt (Nat.le_refl i) (by omega)) ?_
    refine (@bfT _ _ _ _ _ (in8 hx)) ?_
    refine (@bfT _ _ _ _ _ (kdq_2 hx)) ?_
    exact hk _ _ ew hF
  | succ m ih =>
    intro i f x ν hi hf hxx hR hF
    subst hxx
    obtain ⟨F, rfl⟩ : ∃ F, f = F + 40 := ⟨f - 40, by omega⟩
    refine unO ?_
    refine brT (nI_lt (a := i) (b := n) (by omega) (by omega)) ?_
    refine x_drop_2 hR (G1_it hG i) (fun μ1 r1 f1 => ?_)
    exact ih (i + 1) _ _ _ (by omega) (by omega) (nI_succ i).symm r1 (hF.tr f1)
set_option maxRecDepth 100000 in
theorem x_tr {μ : Mem} {k : Rtn} {X : Option Rz} {d y : Int32} {r : Nat → Int32} {n : Nat} (hn : n ≤ 60) (hy : y = nI n) (hd : hasR r d) (hG : G1 r) (hR : Rep μ 2 r) (hk : ∀ ν w, w = rD (itR n r) d 4 → Fr 2 μ ν → k (some (.int w)) ν = X) : S_X4_trialRight [.ref 0, .int d, .int y] μ k = X := by
  subst hy
  refine unl (bfT rfl ?_)
  exact tr_loop hn hd hG hk n 0 _ _ _ (by omega) (Nat.le_trans (show 40 * n + 40 ≤ 3660 by omega) (Nat.le_of_ble_eq_true rfl)) rfl hR Fr.rf
theorem rD_upf {r : Nat → Int32} {a : Nat} {v : Int32} {d f : Int32} (hd : dI d) (hf : fI f) (ha : a < 22) : rD (upf r a v) d f = rD r d f := by
  obtain ⟨e, he, rfl⟩ := hd
  obtain ⟨g, hg, rfl⟩ := hf
  show upf r a v ((22 : Int32) + 6 * nI e + nI g).toNatClampNeg = r ((22 : Int32) + 6 * nI e + nI g).toNatClampNeg
  rw [ixD_cl he hg]
  exact upf_ne _ _ (by omega)
theorem rep21 {μ ν : Mem} {r : Nat → Int32} (hR : Rep μ 1 r) (hG : G1 r) (hF : Fr 2 μ ν) : Rep ν 1 r := rep_fr ⟨by decide, by decide⟩ ⟨by decide, by decide⟩ (by decide) hG.n8 hR hF
theorem Fr.up2 {c i g : Nat} {μ : Mem} {v : Int32} (h : inC c i) : Fr c μ (up2 μ i g v) := Fr.up h
def hfB (n : Nat) (r : Nat → Int32) (d : Int32) (h : Nat) : Bool := decide (rD (itR n (upf r 3 (nI h))) d 3 = rD r d 3)
theorem G1_h {r : Nat → Int32} (hG : G1 r) (v : Int32) : G1 (upf r 3 v) := G1_own hG (by decide) (by decide) (nf rfl) (nf rfl) (nf rfl)
set_option maxRecDepth 100000 in
theorem heightM_loop {k : Rtn} {X : Option Rz} {μ : Mem} {d w0 h0 : Int32} {n : Nat} (hn : n ≤ 60) (hx : dI d) (hG : G1 (μ 50)) (e0 : w0 = μ 50 3) (e1 : h0 = rD (μ 50) d 3) (hk : ∀ ν, Back μ ν → fsP (hfB n (μ 50) d) 60 1 ≤ 60 → k (some (.int (nI (fsP (hfB n (μ 50) d) 60 1)))) ν = X) (hk2 : ∀ ν, Back μ ν → fsP (hfB n (μ 50) d) 60 1 = 61 → k (some (.int (-1000004))) (fndM ν 3) = X) :
    ∀ (m i f : Nat) (x : Int32) (ν : Mem), i + m = 61 → 80 * m + 80 ≤ f → x = nI i → (∀ j, ¬ j = 50 → ¬ j = 52 → ν j = μ j) → ν 50 = upf (μ 50) 3 (nI i) → fsP (hfB n (μ 50) d) 60 1 = fsP (hfB n (μ 50) d) m i → lockO (oILd 5 49) 0 (runK P_X5_heightFor f k) k [some (.ref 49), some (.int d), some (.int (nI n)), some (.int w0), some (.int h0), some (.int x)] [] ν = X := by
  have hB : ∀ (ν : Mem) (v : Int32), (∀ j, ¬ j = 50 → ¬ j = 52 → ν j = μ j) → ν 50 = upf (μ 50) 3 v → Back μ (up2 ν 50 3 w0) := fun ν v a b => nb_back (a := 3) (nb_put a) (by rw [← e0]; exact v_put b)
  intro m
  induction m with
  | zero =>
    intro i f x ν hi hf hxx hN hV hs
    have ei : i = 61 := by omega
    subst hxx; subst ei
    obtain ⟨F, rfl⟩ : ∃ F, f = F + 80 := ⟨f - 80, by omega⟩
    refine unO ?_
    refine e_find3 ?_
    exact hk2 _ (hB ν _ hN hV) hs
  | succ m ih =>
    intro i f x ν hi hf hxx hN hV hs
    subst hxx
    obtain ⟨F, rfl⟩ : ∃ F, f = F + 80 := ⟨f - 80, by omega⟩
    have hG2 : G1 (ν 50) := by rw [hV]; exact G1_h hG _
    have l6 : ¬ 60 < nI i := nI_nlt (a := 60) (b := i) (by omega) (by decide)
    refine unO ?_
    refine brF l6 ?_
    refine e_behind (dI_in hx f3) (show n ≤ 200 by omega) rfl hG2 (fun ν2 w ew b2 => ?_)
    rw [hV] at ew
    have hV2 : ν2 50 = upf (μ 50) 3 (nI i) := (b2 50 (by decide)).trans hV
    cases q : hfB n (μ 50) d i with
    | true =>
      have q2 : rD (itR n (upf (μ 50) 3 (nI i))) d 3 = rD (μ 50) d 3 := of_decide_eq_true q
      refine brT (show w = h0 by rw [ew, e1]; exact q2) ?_
      refine brF l6 ?_
      have es : fsP (hfB n (μ 50) d) 60 1 = i := hs.trans (fsP_t q)
      rw [es] at hk
      exact hk _ (hB ν2 _ (nb_bk hN b2) hV2) (by omega)
    | false =>
      have q2 : ¬ rD (itR n (upf (μ 50) 3 (nI i))) d 3 = rD (μ 50) d 3 := of_decide_eq_false q
      refine brF (show ¬ w = h0 by rw [ew, e1]; exact q2) ?_
      refine ih (i + 1) _ _ _ (by omega) (by omega) (nI_succ i).symm (nb_put (nb_bk hN b2)) ?_ (hs.trans (fsP_s q))
      rw [nI_succ]
      exact v_put hV2
set_option maxRecDepth 100000 in
theorem e_heightFor {μ : Mem} {k : Rtn} {X : Option Rz} {d : Int32} {n : Nat} (hn : n ≤ 60) (hd : hasR (μ 50) d) (hG : G1 (μ 50)) (hk : ∀ ν, Back μ ν → fsP (hfB n (μ 50) d) 60 1 ≤ 60 → k (some (.int (nI (fsP (hfB n (μ 50) d) 60 1)))) ν = X) (hk2 : ∀ ν, Back μ ν → fsP (hfB n (μ 50) d) 60 1 = 61 → k (some (.int (-1000004))) (fndM ν 3) = X) : S_X5_heightFor [.ref 49, .int d, .int (nI n)] μ k = X := by
  have hx := hd.dI hG
  have g1 : ¬ d < 0 := hd.nn hG
  have g3 : ¬ μ 50 1 - 1 < d := has_nl hd hG
  have n1 : ¬ nI n < 0 := nI_nl (by omega)
  have n2 : ¬ 60 < nI n := nI_nlt (a := 60) (b := n) hn (by decide)
  refine unl (bfT rfl ?_)
  repeat' (first | refine brF c10 ?_ | refine brT c00 ?_ | refine brF c01 ?_ | refine brT c11 ?_ | refine brT (by assumption) ?_ | refine brF (by assumption) ?_)
  refine e_dIs hx f3 ?_
  refine heightM_loop hn hx hG rfl rfl hk hk2 60 1 _ _ _ (by omega) (Nat.le_of_ble_eq_true rfl) rfl (nb_put (fun _ _ _ => rfl)) ?_ rfl
  exact v_put (a := 3) (upf_id _ _).symm
set_option maxRecDepth 100000 in
theorem heightX_loop {k : Rtn} {X : Option Rz} {μ : Mem} {d : Int32} {r : Nat → Int32} {n : Nat} (hn : n ≤ 60) (hd : hasR r d) (hG : G1 r) (hR0 : Rep μ 1 r) (hk : ∀ ν, Fr 2 μ ν → fsP (hfB n r d) 60 1 ≤ 60 → k (some (.int (nI (fsP (hfB n r d) 60 1)))) ν = X) (hk2 : ∀ ν, Fr 2 μ ν → fsP (hfB n r d) 60 1 = 61 → k (some (.int (-1000004))) (telM ν 3) = X) :
    ∀ (m i f : Nat) (x : Int32) (ν : Mem), i + m = 61 → 80 * m + 80 ≤ f → x = nI i → Fr 2 μ ν → fsP (hfB n r d) 60 1 = fsP (hfB n r d) m i → lockO (oILd 3 31) 0 (runK P_X4_heightFor f k) k [some (.ref 0), some (.int d), some (.int (nI n)), some (.int x)] [] ν = X := by
  intro m
  induction m with
  | zero =>
    intro i f x ν hi hf hxx hF hs
    have ei : i = 61 := by omega
    subst hxx; subst ei
    obtain ⟨F, rfl⟩ : ∃ F, f = F + 80 := ⟨f - 80, by omega⟩
    refine unO ?_
    refine x_tell3 ?_
    exact hk2 _ hF hs
  | succ m ih =>
    intro i f x ν hi hf hxx hF hs
    subst hxx
    obtain ⟨F, rfl⟩ : ∃ F, f = F + 80 := ⟨f - 80, by omega⟩
    have l6 : ¬ 60 < nI i := nI_nlt (a := 60) (b := i) (by omega) (by decide)
    refine unO ?_
    refine brF l6 ?_
    refine x_bec_21 (rep21 hR0 hG hF) hG (fun ν1 r1 f1 => ?_)
    have hd2 : hasR (upf r 3 (nI i)) d := hd
    have el : rD (upf r 3 (nI i)) d 3 = rD r d 3 := rD_upf (hd.dI hG) f3 (by decide)
    refine x_tlw hn rfl hd2 (G1_h hG _) (rep_own (k := 0) ⟨by decide, by decide⟩ r1 (by decide)) (fun ν2 w ew f2 => ?_)
    rw [el] at ew
    have fA : Fr 2 μ ν2 := hF.tr (f1.tr ((Fr.up2 (Or.inl rfl)).tr f2))
    cases q : hfB n r d i with
    | true =>
      have q2 : rD (itR n (upf r 3 (nI i))) d 3 = rD r d 3 := of_decide_eq_true q
      rw [if_pos q2] at ew
      subst ew
      have es : fsP (hfB n r d) 60 1 = i := hs.trans (fsP_t q)
      rw [es] at hk
      exact hk _ fA (by omega)
    | false =>
      have q2 : ¬ rD (itR n (upf r 3 (nI i))) d 3 = rD r d 3 := of_decide_eq_false q
      rw [if_neg q2] at ew
      subst ew
      exact ih (i + 1) _ _ _ (by omega) (by omega) (nI_succ i).symm fA (hs.trans (fsP_s q))
set_option maxRecDepth 100000 in
theorem T_heightFor {μ : Mem} {k1 : Rtn} {K : Int32 → Rtn} {X : Option Rz} (hI : Inv μ) {d a : Int32} (hm : ∀ z μ1, k1 (some (.int z)) μ1 = S_X5_heightFor [.ref 49, .int d, .int a] μ1 (K z)) (hK : ∀ v w μ2, v = w → Inv μ2 → K v (some (.int w)) μ2 = X) : S_X4_heightFor [.ref 0, .int d, .int a] μ k1 = X := by
  rcases has_cases hI d with ⟨hd, g1, g2, g3⟩ | g1 | ⟨g1, g2, g3⟩
  rotate_left
  · refine unl (bfT rfl ?_)
    repeat' (first | refine brT (by assumption) ?_ | refine brF (by assumption) ?_ | refine br (fun q => ?_) (fun q => ?_))
    all_goals (refine x_tell0 ?_; refine (hm _ _).trans ?_; refine unl (bfT rfl ?_); (repeat' (first | refine brF c10 ?_ | refine brT c00 ?_ | refine brF c01 ?_ | refine brT c11 ?_ | refine brT (by assumption) ?_ | refine brF (by assumption) ?_)); refine e_find0 ?_; exact hK _ _ _ rfl (Inv_tell hI (by decide)))
  · refine unl (bfT rfl ?_)
    repeat' (first | refine brT (by assumption) ?_ | refine brF (by assumption) ?_ | refine br (fun q => ?_) (fun q => ?_))
    all_goals (refine x_tell0 ?_; refine (hm _ _).trans ?_; refine unl (bfT rfl ?_); (repeat' (first | refine brF c10 ?_ | refine brT c00 ?_ | refine brF c01 ?_ | refine brT c11 ?_ | refine brT (by assumption) ?_ | refine brF (by assumption) ?_)); refine e_find0 ?_; exact hK _ _ _ rfl (Inv_tell hI (by decide)))
  by_cases a1 : a < 0
  · refine unl (bfT rfl ?_)
    repeat' (first | refine brT (by assumption) ?_ | refine brF (by assumption) ?_ | refine br (fun q => ?_) (fun q => ?_))
    all_goals (refine x_tell0 ?_; refine (hm _ _).trans ?_; refine unl (bfT rfl ?_); (repeat' (first | refine brF c10 ?_ | refine brT c00 ?_ | refine brF c01 ?_ | refine brT c11 ?_ | refine brT (by assumption) ?_ | refine brF (by assumption) ?_)); refine e_find0 ?_; exact hK _ _ _ rfl (Inv_tell hI (by decide)))
  by_cases a2 : 60 < a
  · refine unl (bfT rfl ?_)
    repeat' (first | refine brT (by assumption) ?_ | refine brF (by assumption) ?_ | refine br (fun q => ?_) (fun q => ?_))
    all_goals (refine x_tell0 ?_; refine (hm _ _).trans ?_; refine unl (bfT rfl ?_); (repeat' (first | refine brF c10 ?_ | refine brT c00 ?_ | refine brF c01 ?_ | refine brT c11 ?_ | refine brT (by assumption) ?_ | refine brF (by assumption) ?_)); refine e_find0 ?_; exact hK _ _ _ rfl (Inv_tell hI (by decide)))
  obtain ⟨n, hn, rfl⟩ := nlt_VB (n := 60) (by decide) a1 a2
  refine unl (bfT rfl ?_)
  repeat' (first | refine brF c10 ?_ | refine brT c00 ?_ | refine brF c01 ?_ | refine brT c11 ?_ | refine brT (by assumption) ?_ | refine brF (by assumption) ?_)
  refine heightX_loop hn hd hI.1.2 hI.1.1 (fun ν f2 hj => ?_) (fun ν f2 hj => ?_) 60 1 _ _ _ (by omega) (Nat.le_of_ble_eq_true rfl) rfl Fr.rf rfl
  · refine (hm _ _).trans ?_
    have e : ν 50 = μ 50 := f2 50 (by unfold inC; omega)
    rw [← e] at hj hd ⊢
    refine e_heightFor hn hd (by rw [e]; exact hI.1.2) (fun ν3 hB _ => ?_) (fun ν3 hB q => ?_)
    · exact hK _ _ _ rfl (hB.inv hI f2)
    · omega
  · refine (hm _ _).trans ?_
    have e : (telM ν 3) 50 = μ 50 := f2 50 (by unfold inC; omega)
    rw [← e] at hj hd
    refine e_heightFor hn hd (by rw [e]; exact hI.1.2) (fun ν3 hB q => ?_) (fun ν3 hB _ => ?_)
    · omega
    · exact hK _ _ _ rfl (Inv_tb hI f2 hB (by decide))
