/-! texts: items, the class's reading -/
def FX (μ ν : Mem) : Prop := (∀ i, ¬ inC 2 i → ¬ i = 37 → ν i = μ i) ∧ ν 37 1 = μ 37 1
theorem FX.rf {μ : Mem} : FX μ μ := ⟨fun _ _ _ => rfl, rfl⟩
theorem FX.tr {μ μ1 μ2 : Mem} (h1 : FX μ μ1) (h2 : FX μ1 μ2) : FX μ μ2 := ⟨fun i a b => (h2.1 i a b).trans (h1.1 i a b), h2.2.trans h1.2⟩
theorem FX.fg {μ ν : Mem} {L : List Nat} (h : FG 37 L μ ν) (h1 : ¬ 1 ∈ L) : FX μ ν := ⟨fun i _ b => h.1 i b, h.2 1 h1⟩
theorem FX.c2 {μ : Mem} {c g : Nat} {v : Int32} (h : inC 2 c) : FX μ (up2 μ c g v) := by
  have hc : ¬ c = 37 := by unfold inC at h; omega
  refine ⟨fun i a _ => up2_ne _ _ (fun e => a (by rw [e]; exact h)), ?_⟩
  rw [up2_ne _ _ (fun e => hc e.symm)]
theorem FX.fr {μ ν : Mem} (h : Fr 2 μ ν) : FX μ ν := ⟨fun i a _ => h i a, by rw [h 37 (by unfold inC; omega)]⟩
theorem TB.fx {tp : Nat → Int32} {n : Nat} {μ ν : Mem} (h : TB tp n μ) (hF : FX μ ν) : TB tp n ν := by
  refine ⟨hF.2.trans h.1, fun j hj => ?_⟩
  rw [hF.1 38 (by unfold inC; omega) (by decide)]
  exact h.2 j hj
theorem rep_37 {μ ν : Mem} {L : List Nat} {r : Nat → Int32} (h : FG 37 L μ ν) (h8 : (r 1).toNatClampNeg ≤ 8) (hR : Rep μ 2 r) : Rep ν 2 r := rep_same (fun i hi => h.1 i (by unfold inC at hi; omega)) h8 hR
def KX (tp : Nat → Int32) (n : Nat) (r : Nat → Int32) (o : Nat ⊕ (Nat × It4)) (μ : Mem) (k : Rtn) (X : Option Rz) : Prop := match o with
  | .inl f => ∀ ν, FX μ ν → ν 37 3 = nI f → k (some (.int 0)) ν = X
  | .inr q => ∀ ν, FX μ ν → TX tp n ν q.1 → Rep ν 2 (tellR q.2 r) → k (some (.int 1)) ν = X
theorem KX_fx {tp : Nat → Int32} {n : Nat} {r : Nat → Int32} {o : Nat ⊕ (Nat × It4)} {μ μ1 : Mem} {k : Rtn} {X : Option Rz} (h : FX μ μ1) (hk : KX tp n r o μ k X) : KX tp n r o μ1 k X := by
  cases o with
  | inl f => exact fun ν a b => hk ν (h.tr a) b
  | inr q => exact fun ν a b c => hk ν (h.tr a) b c
theorem KX_k {tp : Nat → Int32} {n : Nat} {r : Nat → Int32} {o : Nat ⊕ (Nat × It4)} {μ : Mem} {k k2 : Rtn} {X : Option Rz} (h0 : ∀ ν, k2 (some (.int 0)) ν = k (some (.int 0)) ν) (h1 : ∀ ν, k2 (some (.int 1)) ν = k (some (.int 1)) ν) (hk : KX tp n r o μ k X) : KX tp n r o μ k2 X := by
  cases o with
  | inl f => exact fun ν a b => (h0 ν).trans (hk ν a b)
  | inr q => exact fun ν a b c => (h1 ν).trans (hk ν a b c)
section XI
variable {tp : Nat → Int32} {n : Nat}
set_option maxRecDepth 100000 in
theorem x_snT {μ : Mem} {k : Rtn} {X : Option Rz} {p : Nat} {lo hi : Int32} (hn : n ≤ 120) (hp : p ≤ n) (hB : TB tp n μ) (hX : TX tp n μ p) (hN : pNum tp n lo hi (en tp n p) = true) (hk : ∀ ν, FG 37 [2, 3, 4, 5] μ ν → TX tp n ν (en tp n p) → ν 37 5 = val tp n (en tp n p) → k (some (.int 1)) ν = X) : S_X3_stepsToNumber [.ref 37, .int lo, .int hi] μ k = X := by
  obtain ⟨a, b, c⟩ := pNum_T hN
  refine unl (bfT rfl ?_)
  refine x_step (tp := tp) (n := n) (p := en tp n p) hn (en_b hp).2 hB hX.2.2.1 (fun ν hF hT => ?_)
  have e5 := hT.2.2.2 a
  rw [← e5] at b c
  refine brT (hT.1.trans (xk_n.mpr a)) ?_
  refine brF b ?_
  refine brF c ?_
  exact hk ν hF hT e5
set_option maxRecDepth 100000 in
theorem x_snF {μ : Mem} {k : Rtn} {X : Option Rz} {p : Nat} {lo hi : Int32} (hn : n ≤ 120) (hp : p ≤ n) (hB : TB tp n μ) (hX : TX tp n μ p) (hN : pNum tp n lo hi (en tp n p) = false) (hk : ∀ ν, FG 37 [2, 3, 4, 5] μ ν → TX tp n ν (en tp n p) → k (some (.int 0)) ν = X) : S_X3_stepsToNumber [.ref 37, .int lo, .int hi] μ k = X := by
  refine unl (bfT rfl ?_)
  refine x_step (tp := tp) (n := n) (p := en tp n p) hn (en_b hp).2 hB hX.2.2.1 (fun ν hF hT => ?_)
  rcases pNum_F hN with a | ⟨a, b⟩ | ⟨a, b, c⟩
  · refine brF (fun q => a (xk_n.mp (hT.1.symm.trans q))) ?_
    exact hk ν hF hT
  · have e5 := hT.2.2.2 a
    rw [← e5] at b
    refine brT (hT.1.trans (xk_n.mpr a)) ?_
    refine brT b ?_
    exact hk ν hF hT
  · have e5 := hT.2.2.2 a
    rw [← e5] at b c
    refine brT (hT.1.trans (xk_n.mpr a)) ?_
    refine brF b ?_
    refine brT c ?_
    exact hk ν hF hT
set_option maxRecDepth 100000 in
theorem x_kind {μ : Mem} {k : Rtn} {X : Option Rz} {p : Nat} (hn : n ≤ 120) (hp : p ≤ n) (hB : TB tp n μ) (hX : TX tp n μ p) (hk : k (some (.int (kdW tp n p))) μ = X) : S_X3_kindOfWord [.ref 37] μ k = X := by
  unfold kdW at hk
  refine unl (bfT rfl ?_)
  refine x_isWord (tp := tp) (n := n) (p := p) (w := 0) rfl (by decide) hn hp hB hX ?_
  cases h0 : isW tp n 0 p with
  | true => rw [h0] at hk; rw [bI_T]; exact hk
  | false =>
    rw [h0] at hk; rw [bI_F]
    refine x_isWord (tp := tp) (n := n) (p := p) (w := 1) rfl (by decide) hn hp hB hX ?_
    cases h1 : isW tp n 1 p with
    | true => rw [h1] at hk; rw [bI_T]; exact hk
    | false =>
      rw [h1] at hk; rw [bI_F]
      refine x_isWord (tp := tp) (n := n) (p := p) (w := 2) rfl (by decide) hn hp hB hX ?_
      cases h2 : isW tp n 2 p with
      | true => rw [h2] at hk; rw [bI_T]; exact hk
      | false =>
        rw [h2] at hk; rw [bI_F]
        refine x_isWord (tp := tp) (n := n) (p := p) (w := 3) rfl (by decide) hn hp hB hX ?_
        cases h3 : isW tp n 3 p with
        | true => rw [h3] at hk; rw [bI_T]; exact hk
        | false =>
          rw [h3] at hk; rw [bI_F]
          refine x_isWord (tp := tp) (n := n) (p := p) (w := 4) rfl (by decide) hn hp hB hX ?_
          cases h4 : isW tp n 4 p with
          | true => rw [h4] at hk; rw [bI_T]; exact hk
          | false =>
            rw [h4] at hk; rw [bI_F]
            refine x_isWord (tp := tp) (n := n) (p := p) (w := 5) rfl (by decide) hn hp hB hX ?_
            cases h5 : isW tp n 5 p with
            | true => rw [h5] at hk; rw [bI_T]; exact hk
            | false =>
              rw [h5] at hk; rw [bI_F]
              refine x_isWord (tp := tp) (n := n) (p := p) (w := 6) rfl (by decide) hn hp hB hX ?_
              cases h6 : isW tp n 6 p with
              | true => rw [h6] at hk; rw [bI_T]; exact hk
              | false => rw [h6] at hk; rw [bI_F]; exact hk
set_option maxRecDepth 100000 in
theorem x_rHeight {μ : Mem} {k : Rtn} {X : Option Rz} {p : Nat} {r : Nat → Int32} (hn : n ≤ 120) (hp : p ≤ n) (hB : TB tp n μ) (hX : TX tp n μ p) (hG : G1 r) (hR : Rep μ 2 r) (hk : KX tp n r (pOne tp n 11 1 60 (en tp n p)) μ k X) : S_X3_readHeight [.ref 37, .ref 2] μ k = X := by
  have p1 := (en_b (tp := tp) hp).2
  have p2 := (en_b (tp := tp) p1).2
  unfold pOne at hk
  refine unl (bfT rfl ?_)
  cases hN : pNum tp n 1 60 (en tp n p) with
  | false =>
    rw [hN, cond_false] at hk
    refine x_snF hn hp hB hX hN (fun ν1 f1 t1 => ?_)
    exact hk ν1 (FX.fg f1 (by decide)) t1.2.1
  | true =>
    rw [hN, cond_true] at hk
    refine x_snT hn hp hB hX hN (fun ν1 f1 t1 e5 => ?_)
    have F1 : FX μ (up2 ν1 2 0 (ν1 37 5)) := (FX.fg f1 (by decide)).tr (FX.c2 (Or.inl rfl))
    have R2 : Rep (up2 ν1 2 0 (ν1 37 5)) 2 (upf r 3 (ν1 37 5)) := rep_own (k := 0) ⟨by decide, by decide⟩ (rep_37 f1 hG.n8 hR) (by decide)
    refine x_step (tp := tp) (n := n) (p := en tp n (en tp n p)) hn p2 (hB.fx F1) t1.2.2.1 (fun ν2 f2 t2 => ?_)
    refine hk ν2 (F1.tr (FX.fg f2 (by decide))) t2 ?_
    show Rep ν2 2 (upf r 3 (val tp n (en tp n p)))
    rw [← e5]
    exact rep_37 f2 (G1_h hG _).n8 R2
set_option maxRecDepth 100000 in
theorem x_rSpread {μ : Mem} {k : Rtn} {X : Option Rz} {p : Nat} {r : Nat → Int32} (hn : n ≤ 120) (hp : p ≤ n) (hB : TB tp n μ) (hX : TX tp n μ p) (hG : G1 r) (hR : Rep μ 2 r) (hk : KX tp n r (pOne tp n 12 0 9 (en tp n p)) μ k X) : S_X3_readSpread [.ref 37, .ref 2] μ k = X := by
  have p1 := (en_b (tp := tp) hp).2
  have p2 := (en_b (tp := tp) p1).2
  unfold pOne at hk
  refine unl (bfT rfl ?_)
  cases hN : pNum tp n 0 9 (en tp n p) with
  | false =>
    rw [hN, cond_false] at hk
    refine x_snF hn hp hB hX hN (fun ν1 f1 t1 => ?_)
    exact hk ν1 (FX.fg f1 (by decide)) t1.2.1
  | true =>
    rw [hN, cond_true] at hk
    refine x_snT hn hp hB hX hN (fun ν1 f1 t1 e5 => ?_)
    have F1 : FX μ (up2 ν1 2 1 (ν1 37 5)) := (FX.fg f1 (by decide)).tr (FX.c2 (Or.inl rfl))
    have R2 : Rep (up2 ν1 2 1 (ν1 37 5)) 2 (upf r 4 (ν1 37 5)) := rep_own (k := 1) ⟨by decide, by decide⟩ (rep_37 f1 hG.n8 hR) (by decide)
    refine x_step (tp := tp) (n := n) (p := en tp n (en tp n p)) hn p2 (hB.fx F1) t1.2.2.1 (fun ν2 f2 t2 => ?_)
    refine hk ν2 (F1.tr (FX.fg f2 (by decide))) t2 ?_
    show Rep ν2 2 (upf r 4 (val tp n (en tp n p)))
    rw [← e5]
    refine rep_37 f2 ?_ R2
    rw [upf_ne _ _ (by decide)]
    exact hG.n8
set_option maxRecDepth 100000 in
theorem x_rLst {μ : Mem} {k : Rtn} {X : Option Rz} {p : Nat} {r : Nat → Int32} (hn : n ≤ 120) (hp : p ≤ n) (hB : TB tp n μ) (hX : TX tp n μ p) (hG : G1 r) (hR : Rep μ 2 r) (hk : KX tp n r (pLst tp n (en tp n p)) μ k X) : S_X3_readDispute [.ref 37, .ref 2] μ k = X := by
  have p1 := (en_b (tp := tp) hp).2
  have p2 := (en_b (tp := tp) p1).2
  have p3 := (en_b (tp := tp) p2).2
  have p4 := (en_b (tp := tp) p3).2
  unfold pLst at hk
  refine unl (bfT rfl ?_)
  cases h1 : pNum tp n 0 5 (en tp n p) with
  | false =>
    rw [h1, cond_false] at hk
    refine x_snF hn hp hB hX h1 (fun ν1 f1 t1 => ?_)
    exact hk ν1 (FX.fg f1 (by decide)) t1.2.1
  | true =>
    rw [h1, cond_true] at hk
    refine x_snT hn hp hB hX h1 (fun ν1 f1 t1 e1 => ?_)
    have b1 := hB.fg (by decide) f1
    cases h2 : pNum tp n 0 7 (en tp n (en tp n p)) with
    | false =>
      rw [h2, cond_false] at hk
      refine x_snF hn p1 b1 t1 h2 (fun ν2 f2 t2 => ?_)
      exact hk ν2 (FX.fg (f1.tr f2) (by decide)) t2.2.1
    | true =>
      rw [h2, cond_true] at hk
      refine x_snT hn p1 b1 t1 h2 (fun ν2 f2 t2 e2 => ?_)
      have b2 := b1.fg (by decide) f2
      cases h3 : pNum tp n 0 7 (en tp n (en tp n (en tp n p))) with
      | false =>
        rw [h3, cond_false] at hk
        refine x_snF hn p2 b2 t2 h3 (fun ν3 f3 t3 => ?_)
        exact hk ν3 (FX.fg ((f1.tr f2).tr f3) (by decide)) t3.2.1
      | true =>
        rw [h3, cond_true] at hk
        refine x_snT hn p2 b2 t2 h3 (fun ν3 f3 t3 e3 => ?_)
        have F3 := (f1.tr f2).tr f3
        obtain ⟨m, hm, em⟩ := pNum_VB (m := 5) (by decide) h1
        have gi : inB (ν1 37 5) 6 = true := by rw [e1, em]; exact inB_nI (by omega) (by decide)
        have gc : (ν1 37 5).toNatClampNeg = m := by rw [e1, em, nI_cl (by omega)]
        have F4 : FX μ (up2 ν3 5 (ν1 37 5).toNatClampNeg (10 * ν2 37 5 + ν3 37 5)) := (FX.fg F3 (by decide)).tr (FX.c2 (Or.inr (Or.inl rfl)))
        have R4 : Rep (up2 ν3 5 (ν1 37 5).toNatClampNeg (10 * ν2 37 5 + ν3 37 5)) 2 (upf r (6 + m) (10 * ν2 37 5 + ν3 37 5)) := by
          rw [gc]
          exact rep_list (c := 2) ⟨by decide, by decide⟩ (rep_37 F3 hG.n8 hR) (by omega)
        refine (@bfT _ _ _ _ _ (gi)) ?_
        refine x_step (tp := tp) (n := n) (p := en tp n (en tp n (en tp n (en tp n p)))) hn p4 (hB.fx F4) t3.2.2.1 (fun ν4 f4 t4 => ?_)
        refine hk ν4 (F4.tr (FX.fg f4 (by decide))) t4 ?_
        show Rep ν4 2 (upf r (6 + (val tp n (en tp n p)).toNatClampNeg) (10 * val tp n (en tp n (en tp n p)) + val tp n (en tp n (en tp n (en tp n p)))))
        rw [← e2, ← e3, em, nI_cl (by omega)]
        exact rep_37 f4 (G1_l hG (by omega) _).n8 R4
end XI
