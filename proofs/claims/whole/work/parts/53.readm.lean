/-! texts: the reference reads an item, tells it, reads a text -/
theorem bI_T : bI true = 1 := rfl
theorem bI_F : bI false = 0 := rfl
theorem m1lt : decide ((-1 : Int32) < 0) = true := by decide
theorem KM_k {tp : Nat → Int32} {n j : Nat} {c : Int32} {o : Nat ⊕ (Nat × It4)} {μ : Mem} {k k2 : Rtn} {X : Option Rz} (h : ∀ ν, k2 none ν = k none ν) (hk : KM tp n j c o μ k X) : KM tp n j c o μ k2 X := by
  cases o with
  | inl f => exact fun ν w => (h ν).trans (hk ν w)
  | inr q => exact fun ν w => (h ν).trans (hk ν w)
def lstW (tp : Nat → Int32) (n p : Nat) : Nat → Int32
  | 0 => -1
  | i + 1 => bif isW tp n i p then nI i else lstW tp n p i
theorem lstW_no {tp : Nat → Int32} {n p : Nat} : ∀ i, (∀ v, v < i → isW tp n v p = false) → lstW tp n p i = -1 := by
  intro i
  induction i with
  | zero => intro _; rfl
  | succ i ih =>
    intro h
    show (bif isW tp n i p then nI i else lstW tp n p i) = -1
    rw [h i (by omega)]
    exact ih (fun v hv => h v (by omega))
theorem lstW_w {tp : Nat → Int32} {n p w : Nat} (hw : w < 7) (h : isW tp n w p = true) : ∀ i, i ≤ 7 → w < i → lstW tp n p i = nI w := by
  intro i
  induction i with
  | zero => intro _ h2; exact absurd h2 (by omega)
  | succ i ih =>
    intro h1 h2
    show (bif isW tp n i p then nI i else lstW tp n p i) = nI w
    cases hi : isW tp n i p with
    | true =>
      have e := isW_1 (w := i) (v := w) (by omega) hw hi h
      rw [e]; rfl
    | false =>
      have hne : ¬ w = i := fun q => by rw [q, hi] at h; cases h
      exact ih (by omega) (by omega)
theorem lstW_7 (tp : Nat → Int32) (n p : Nat) : lstW tp n p 7 = kdW tp n p := by
  rcases kdW_c tp n p with ⟨k1, k2⟩ | ⟨w, hw, k1, k2⟩
  · rw [k1]; exact lstW_no 7 k2
  · rw [k2]; exact lstW_w hw k1 7 (by omega) hw
set_option maxRecDepth 100000 in
theorem mki_loop {tp : Nat → Int32} {n p : Nat} {k : Rtn} {X : Option Rz} {μ : Mem} (hn : n ≤ 120) (hp : p ≤ n) (hB : MB tp n μ) (hM : TM tp n μ p) (hc : ∀ F, 100 ≤ F → runK P_X5_readItem F k 38 [some (.ref 49), some (.int (kdW tp n p)), some (.int (nI 7))] [] μ = X) :
    ∀ (m i f : Nat) (x y : Int32), i + m = 7 → 60 * m + 200 ≤ f → x = nI i → y = lstW tp n p i → lockO (oILd 2 5) 0 (runK P_X5_readItem f k) k [some (.ref 49), some (.int y), some (.int x)] [] μ = X := by
  intro m
  induction m with
  | zero =>
    intro i f x y hi hf hx hy
    obtain ⟨F, rfl⟩ : ∃ F, f = F + 60 := ⟨f - 60, by omega⟩
    have e : i = 7 := by omega
    subst e
    rw [lstW_7] at hy
    subst hx; subst hy
    refine unO ?_
    exact hc _ (by omega)
  | succ m ih =>
    intro i f x y hi hf hx hy
    obtain ⟨F, rfl⟩ : ∃ F, f = F + 60 := ⟨f - 60, by omega⟩
    subst hx; subst hy
    refine unO ?_
    refine brT (nI_lt (a := i) (b := 7) (by omega) (by decide)) ?_
    refine (@bfT _ _ _ _ _ (inB_nI (n := i) (L := 7) (by omega) (by decide))) ?_
    refine e_isWord (tp := tp) (n := n) (p := p) (w := i) (by show 61 + (nI i).toNatClampNeg = 61 + i; rw [nI_cl (by omega)]) (by omega) hn hp hB hM ?_
    cases hw : isW tp n i p with
    | true =>
      rw [bI_T]
      refine ih (i + 1) _ _ _ (by omega) (by omega) (nI_succ i).symm ?_
      show nI i = (bif isW tp n i p then nI i else lstW tp n p i)
      rw [hw]; rfl
    | false =>
      rw [bI_F]
      refine ih (i + 1) _ _ _ (by omega) (by omega) (nI_succ i).symm ?_
      show lstW tp n p i = (bif isW tp n i p then nI i else lstW tp n p i)
      rw [hw]; rfl
set_option maxRecDepth 100000 in
theorem e_rItem {μ : Mem} {k : Rtn} {X : Option Rz} {tp : Nat → Int32} {n p j : Nat} {c : Int32} (hn : n ≤ 120) (hV : ∀ j, j < n → VB (tp j) 255) (hp : p ≤ n) (hB : MB tp n μ) (hM : TM tp n μ p) (h13 : μ 49 13 = 0) (hj : j < 120) (h16 : μ 49 16 = nI j) (h17 : μ 49 17 = c) (hk : KM tp n j c (pItem tp n p c) μ k X) : S_X5_readItem [.ref 49] μ k = X := by
  have p1 := (en_b (tp := tp) hp).2
  refine unl (bfT rfl ?_)
  refine mki_loop (tp := tp) (n := n) (p := p) hn hp hB hM (fun F hF => ?_) 7 0 _ _ _ (by omega) (fu (by omega) rfl) rfl rfl
  obtain ⟨G, rfl⟩ : ∃ G, F = G + 100 := ⟨F - 100, by omega⟩
  unfold pItem at hk
  rcases kdW_c tp n p with ⟨k1, k2⟩ | ⟨w, hw, k1, k2⟩
  · rw [k1, m1lt, cond_true] at hk
    rw [k1]
    cases h7 : isW tp n 7 p with
    | true =>
      rw [h7, cond_true] at hk
      refine e_tkT (w := 7) rfl (by decide) hn hV hp hB hM h13 h7 (fun ν1 f1 m1 z1 => ?_)
      exact e_rLst hn hV p1 (hB.fg (by decide) f1) m1 z1 hj (by rw [f1.2 16 (by decide)]; exact h16) (by rw [f1.2 17 (by decide)]; exact h17) (KM_k (fun ν => rfl) (KM_fg f1 (by decide) (by decide) hk))
    | false =>
      rw [h7, cond_false] at hk
      refine e_tkF (w := 7) rfl (by decide) hn hp hB hM h13 h7 ?_
      cases h8 : isW tp n 8 p with
      | true =>
        rw [h8, cond_true] at hk
        refine e_tkT (w := 8) rfl (by decide) hn hV hp hB hM h13 h8 (fun ν1 f1 m1 z1 => ?_)
        have b1 := hB.fg (by decide) f1
        have hk1 := KM_fg f1 (by decide) (by decide) hk
        have g16 : ν1 49 16 = nI j := by rw [f1.2 16 (by decide)]; exact h16
        have g17 : ν1 49 17 = c := by rw [f1.2 17 (by decide)]; exact h17
        unfold pOne at hk1
        cases hN : pNum tp n 1 60 (en tp n p) with
        | true =>
          rw [hN, cond_true] at hk1
          refine e_num1 hn hV p1 b1 m1 z1 hN (fun ν2 f2 m2 z2 => ?_)
          refine e_add hj (by rw [f2.2 16 (by decide)]; exact g16) (fun ν3 e3 => ?_)
          exact KM_fg f2 (by decide) (by decide) hk1 ν3 (add_OM (by rw [f2.2 17 (by decide)]; exact g17) m2 z2 (show ¬ (11 : Int32) < 10 by decide) e3)
        | false =>
          rw [hN, cond_false] at hk1
          refine e_num0 m1 z1 hN (fun v2 ν2 f2 w2 => ?_)
          refine e_addW hj (by rw [f2.2 16 (by decide)]; exact g16) w2 (by rw [f2.2 9 (by decide)]; exact m1.1) (fun ν3 w3 => ?_)
          exact KM_fg f2 (by decide) (by decide) hk1 ν3 w3
      | false =>
        rw [h8, cond_false] at hk
        refine e_tkF (w := 8) rfl (by decide) hn hp hB hM h13 h8 ?_
        cases h9 : isW tp n 9 p with
        | true =>
          rw [h9, cond_true] at hk
          refine e_tkT (w := 9) rfl (by decide) hn hV hp hB hM h13 h9 (fun ν1 f1 m1 z1 => ?_)
          have b1 := hB.fg (by decide) f1
          have hk1 := KM_fg f1 (by decide) (by decide) hk
          have g16 : ν1 49 16 = nI j := by rw [f1.2 16 (by decide)]; exact h16
          have g17 : ν1 49 17 = c := by rw [f1.2 17 (by decide)]; exact h17
          unfold pOne at hk1
          cases hN : pNum tp n 0 9 (en tp n p) with
          | true =>
            rw [hN, cond_true] at hk1
            refine e_num1 hn hV p1 b1 m1 z1 hN (fun ν2 f2 m2 z2 => ?_)
            refine e_add hj (by rw [f2.2 16 (by decide)]; exact g16) (fun ν3 e3 => ?_)
            exact KM_fg f2 (by decide) (by decide) hk1 ν3 (add_OM (by rw [f2.2 17 (by decide)]; exact g17) m2 z2 (show ¬ (12 : Int32) < 10 by decide) e3)
          | false =>
            rw [hN, cond_false] at hk1
            refine e_num0 m1 z1 hN (fun v2 ν2 f2 w2 => ?_)
            refine e_addW hj (by rw [f2.2 16 (by decide)]; exact g16) w2 (by rw [f2.2 9 (by decide)]; exact m1.1) (fun ν3 w3 => ?_)
            exact KM_fg f2 (by decide) (by decide) hk1 ν3 w3
        | false =>
          rw [h9, cond_false] at hk
          refine e_tkF (w := 9) rfl (by decide) hn hp hB hM h13 h9 ?_
          refine e_must0 h13 (fun ν1 f1 w1 => ?_)
          exact hk ν1 ⟨FB.fg f1 (by decide) (by decide), w1, by rw [f1.2 9 (by decide)]; exact hM.1⟩
  · have k3 : ¬ kdW tp n p < 0 := by rw [k2]; exact nI_nl (by omega)
    have k4 : kdW tp n p < 10 := by rw [k2]; exact nI_lt (a := w) (b := 10) (by omega) (by decide)
    rw [decide_eq_false k3, cond_false] at hk
    refine brF k3 ?_
    exact e_rDisp hn hV hp hB hM h13 hj h16 h17 k4 (KM_k (fun ν => rfl) hk)
/-! telling -/
theorem ix6 {x : Int32} {m : Nat} (hm : m ≤ 5) (e : x = nI m) : inB ((6 : Int32) + x) 70 = true ∧ ((6 : Int32) + x).toNatClampNeg = 6 + x.toNatClampNeg := by
  rw [e, show (6 : Int32) = nI 6 from rfl, nI_add, nI_cl (by omega), nI_cl (by omega)]
  exact ⟨inB_nI (by omega) (by decide), rfl⟩
set_option maxRecDepth 100000 in
theorem e_toldSo {μ : Mem} {k : Rtn} {X : Option Rz} {i : Nat} {a : Int32} (hi : i < 120) (ha : a = nI (4 * i)) (hG : G1 (μ 50)) (hO : itOk (itAt (μ 55) i) (μ 50 1)) (hk : ∀ ν, ν = up1 μ 50 (tellR (itAt (μ 55) i) (μ 50)) → k none ν = X) : S_X5_isToldSo [.ref 49, .int a] μ k = X := by
  have e1 : a + 1 = nI (4 * i + 1) := by rw [ha, nI_1]
  have e2 : a + 2 = nI (4 * i + 2) := by rw [ha, show (2 : Int32) = nI 2 from rfl, nI_add]
  have e3 : a + 3 = nI (4 * i + 3) := by rw [ha, show (3 : Int32) = nI 3 from rfl, nI_add]
  have g0 : inB a 480 = true := by rw [ha]; exact inB_nI (by omega) (by decide)
  have g1 : inB (a + 1) 480 = true := by rw [e1]; exact inB_nI (by omega) (by decide)
  have g2 : inB (a + 2) 480 = true := by rw [e2]; exact inB_nI (by omega) (by decide)
  have g3 : inB (a + 3) 480 = true := by rw [e3]; exact inB_nI (by omega) (by decide)
  have v0 : μ 55 a.toNatClampNeg = (itAt (μ 55) i).1 := by rw [ha, nI_cl (by omega)]; rfl
  have v1 : μ 55 (a + 1).toNatClampNeg = (itAt (μ 55) i).2.1 := by rw [e1, nI_cl (by omega)]; rfl
  have v2 : μ 55 (a + 2).toNatClampNeg = (itAt (μ 55) i).2.2.1 := by rw [e2, nI_cl (by omega)]; rfl
  have v3 : μ 55 (a + 3).toNatClampNeg = (itAt (μ 55) i).2.2.2 := by rw [e3, nI_cl (by omega)]; rfl
  generalize hit : itAt (μ 55) i = it at *
  refine unl (bfT rfl ?_)
  refine (@bfT _ _ _ _ _ (g1)) ?_
  refine (@bfT _ _ _ _ _ (g2)) ?_
  refine (@bfT _ _ _ _ _ (g0)) ?_
  rcases hO with ⟨h1, m, hm, e⟩ | h1 | ⟨h1, h2⟩ | ⟨h1, h2, h3, h4, h5⟩
  · have q := ix6 hm (v1.trans e)
    refine brT (v0.trans h1) ?_
    refine (@bfT _ _ _ _ _ (q.1)) ?_
    refine hk _ ?_
    show up1 μ 50 (upf (μ 50) ((6 : Int32) + μ 55 (a + 1).toNatClampNeg).toNatClampNeg (μ 55 (a + 2).toNatClampNeg)) = _
    rw [q.2, v1, v2]
    unfold tellR
    rw [decide_eq_true h1]
    rfl
  · refine brF (fun z => absurd (v0.symm.trans z) (by rw [h1]; decide)) ?_
    refine brT (v0.trans h1) ?_
    refine hk _ ?_
    show up1 μ 50 (upf (μ 50) 3 (μ 55 (a + 1).toNatClampNeg)) = _
    rw [v1]
    unfold tellR
    rw [h1]
    rfl
  · refine brF (fun z => absurd (v0.symm.trans z) (by rw [h1]; decide)) ?_
    refine brF (fun z => absurd (v0.symm.trans z) (by rw [h1]; decide)) ?_
    refine brT (v0.trans h1) ?_
    refine hk _ ?_
    show up1 μ 50 (upf (μ 50) 4 (μ 55 (a + 1).toNatClampNeg)) = _
    rw [v1]
    unfold tellR
    rw [h1]
    rfl
  · have h7 := ltI8 hG h5
    have hx : dI (nI (μ 50 1).toNatClampNeg) := ⟨_, h7, rfl⟩
    have c2 : ((22 : Int32) + 6 * nI (μ 50 1).toNatClampNeg + 2).toNatClampNeg = 22 + 6 * (μ 50 1).toNatClampNeg + 2 := ixD_cl (g := 2) h7 (by decide)
    have c5 : ((22 : Int32) + 6 * nI (μ 50 1).toNatClampNeg + 5).toNatClampNeg = 22 + 6 * (μ 50 1).toNatClampNeg + 5 := ixD_cl (g := 5) h7 (by decide)
    refine brF (fun z => VB_ne (a := 10) h1 (by decide) (by decide) rfl (v0.symm.trans z)) ?_
    refine brF (fun z => VB_ne (a := 11) h1 (by decide) (by decide) rfl (v0.symm.trans z)) ?_
    refine brF (fun z => VB_ne (a := 12) h1 (by decide) (by decide) rfl (v0.symm.trans z)) ?_
    refine (@bfT _ _ _ _ _ (g0)) ?_
    refine e_comes (n := (μ 50 1).toNatClampNeg) h7 hG.n1 (fun μ1 m1 => ?_)
    have m1 : μ1 = up1 μ 50 (cmR (μ 50) (μ 50 1).toNatClampNeg (μ 55 a.toNatClampNeg) (μ 55 (a + 1).toNatClampNeg)) := m1
    have f3 : μ1 55 (a + 3).toNatClampNeg = it.2.2.2 := by rw [m1, up1_ne _ _ (by decide)]; exact v3
    refine (@bfT _ _ _ _ _ (dI_in hx f2)) ?_
    refine (@bfT _ _ _ _ _ (g3)) ?_
    refine (@bfT _ _ _ _ _ (dI_in hx f5)) ?_
    refine hk _ ?_
    show up2 (up2 μ1 50 ((22 : Int32) + 6 * nI (μ 50 1).toNatClampNeg + 2).toNatClampNeg (μ 55 (a + 2).toNatClampNeg)) 50 ((22 : Int32) + 6 * nI (μ 50 1).toNatClampNeg + 5).toNatClampNeg (μ1 55 (a + 3).toNatClampNeg) = _
    rw [c2, c5, v2, f3, tell_k h1, m1, v0, v1]
    simp only [up2, up1_at, up1_same]
    rfl
