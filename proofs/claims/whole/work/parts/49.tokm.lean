/-! texts: the reference's tokens -/
def MB (tp : Nat → Int32) (n : Nat) (μ : Mem) : Prop := μ 49 8 = nI n ∧ ∀ j, j < n → μ 54 j = tp j
theorem MB.fg {tp : Nat → Int32} {n : Nat} {μ ν : Mem} {L : List Nat} (h : MB tp n μ) (hL : ¬ 8 ∈ L) (hF : FG 49 L μ ν) : MB tp n ν := by
  refine ⟨(hF.2 8 hL).trans h.1, fun j hj => ?_⟩
  rw [hF.1 54 (by decide)]
  exact h.2 j hj
def TM (tp : Nat → Int32) (n : Nat) (ν : Mem) (p : Nat) : Prop := ν 49 9 = nI (bg tp n p) ∧ ν 49 10 = nI (en tp n p) ∧ ν 49 11 = srt tp n p ∧ ν 49 12 = val tp n p
theorem cm32 : ¬ (-1 : Int32) = 32 := by decide
theorem cm97 : (-1 : Int32) < 97 := by decide
theorem cm48 : (-1 : Int32) < 48 := by decide
theorem cm0 : (-1 : Int32) < 0 := by decide
set_option maxRecDepth 100000 in
theorem msp_loop {k : Rtn} {X : Option Rz} {tp : Nat → Int32} {n b : Nat} {μ : Mem} (hn : n ≤ 120) (hB : MB tp n μ) (hc : ∀ F ν, 10000 ≤ F → FG 49 [9] μ ν → ν 49 9 = nI b → runK P_X5_token F k 34 [some (.ref 49), none] [] ν = X) :
    ∀ (m p f : Nat) (ν : Mem), p + m = n → 60 * m + 12000 ≤ f → rn isSp tp m p = b → FG 49 [9] μ ν → ν 49 9 = nI p → lockO (oALd 0 9) 0 (runK P_X5_token f k) k [some (.ref 49), none] [] ν = X := by
  intro m
  induction m with
  | zero =>
    intro p f ν hp hf hb hF h3
    obtain ⟨F, rfl⟩ : ∃ F, f = F + 60 := ⟨f - 60, by omega⟩
    have hT := hB.fg (by decide) hF
    have g : ¬ ν 49 9 < ν 49 8 := by rw [h3, hT.1]; exact nI_nlt (by omega) (by omega)
    refine unO ?_
    refine brF g ?_
    exact hc _ _ (by omega) hF (by rw [h3]; exact congrArg nI hb)
  | succ m ih =>
    intro p f ν hp hf hb hF h3
    obtain ⟨F, rfl⟩ : ∃ F, f = F + 60 := ⟨f - 60, by omega⟩
    have hT := hB.fg (by decide) hF
    have g : ν 49 9 < ν 49 8 := by rw [h3, hT.1]; exact nI_lt (by omega) (by omega)
    have gi : inB (ν 49 9) 120 = true := by rw [h3]; exact inB_nI (by omega) (by decide)
    have gx : ν 54 (ν 49 9).toNatClampNeg = tp p := by rw [h3, nI_cl (by omega)]; exact hT.2 p (by omega)
    refine unO ?_
    refine brT g ?_
    refine (@bfT _ _ _ _ _ (gi)) ?_
    by_cases h : tp p = 32
    · refine brT (gx.trans h) ?_
      refine ih (p + 1) _ (up2 ν 49 9 (ν 49 9 + 1)) (by omega) (by omega) ?_ (hF.up (by decide)) ?_
      · rw [← hb]; exact (rn_T (q := isSp) (decide_eq_true h)).symm
      · show ν 49 9 + 1 = _
        rw [h3, nI_1]
    · refine brF (fun q => h (gx.symm.trans q)) ?_
      refine hc _ _ (by omega) hF ?_
      rw [h3, ← hb, rn_F (q := isSp) (decide_eq_false h)]
set_option maxRecDepth 100000 in
theorem mlt_loop {k : Rtn} {X : Option Rz} {tp : Nat → Int32} {n b : Nat} {y : Int32} {μ : Mem} (hn : n ≤ 120) (hB : MB tp n μ) (hc : ∀ ν, FG 49 [10] μ ν → ν 49 10 = nI b → k none ν = X) :
    ∀ (m p f : Nat) (ν : Mem), p + m = n → 60 * m + 60 ≤ f → rn isLt tp m p = b → FG 49 [10] μ ν → ν 49 10 = nI p → lockO (oALd 0 85) 0 (runK P_X5_token f k) k [some (.ref 49), some (.int y)] [] ν = X := by
  intro m
  induction m with
  | zero =>
    intro p f ν hp hf hb hF h3
    obtain ⟨F, rfl⟩ : ∃ F, f = F + 60 := ⟨f - 60, by omega⟩
    have hT := hB.fg (by decide) hF
    have g : ¬ ν 49 10 < ν 49 8 := by rw [h3, hT.1]; exact nI_nlt (by omega) (by omega)
    have hh := hc ν hF (by rw [h3]; exact congrArg nI hb)
    refine unO ?_
    refine brF g ?_
    first | exact hh | (refine brT cm97 ?_; exact hh)
  | succ m ih =>
    intro p f ν hp hf hb hF h3
    obtain ⟨F, rfl⟩ : ∃ F, f = F + 60 := ⟨f - 60, by omega⟩
    have hT := hB.fg (by decide) hF
    have g : ν 49 10 < ν 49 8 := by rw [h3, hT.1]; exact nI_lt (by omega) (by omega)
    have gi : inB (ν 49 10) 120 = true := by rw [h3]; exact inB_nI (by omega) (by decide)
    have gx : ν 54 (ν 49 10).toNatClampNeg = tp p := by rw [h3, nI_cl (by omega)]; exact hT.2 p (by omega)
    refine unO ?_
    refine brT g ?_
    refine (@bfT _ _ _ _ _ (gi)) ?_
    cases h : isLt (tp p) with
    | true =>
      obtain ⟨q1, q2⟩ := isLt_T h
      rw [← gx] at q1 q2
      refine brF q1 ?_
      refine brF q2 ?_
      refine ih (p + 1) _ (up2 ν 49 10 (ν 49 10 + 1)) (by omega) (by omega) ?_ (hF.up (by decide)) ?_
      · rw [← hb]; exact (rn_T h).symm
      · show ν 49 10 + 1 = _
        rw [h3, nI_1]
    | false =>
      have hh := hc ν hF (by rw [h3, ← hb, rn_F h])
      rcases isLt_F h with q1 | ⟨q1, q2⟩
      · rw [← gx] at q1
        refine brT q1 ?_
        exact hh
      · rw [← gx] at q1 q2
        refine brF q1 ?_
        refine brT q2 ?_
        exact hh
set_option maxRecDepth 100000 in
theorem mdg_loop {k : Rtn} {X : Option Rz} {tp : Nat → Int32} {n b : Nat} {w y : Int32} {μ : Mem} (hn : n ≤ 120) (hB : MB tp n μ) (hc : ∀ ν, FG 49 [10, 12] μ ν → ν 49 10 = nI b → ν 49 12 = w → k none ν = X) :
    ∀ (m p f : Nat) (v : Int32) (ν : Mem), p + m = n → 80 * m + 80 ≤ f → rn isDg tp m p = b → dgV tp m p v = w → FG 49 [10, 12] μ ν → ν 49 10 = nI p → ν 49 12 = v → lockO (oALd 0 132) 0 (runK P_X5_token f k) k [some (.ref 49), some (.int y)] [] ν = X := by
  intro m
  induction m with
  | zero =>
    intro p f v ν hp hf hb hw hF h3 h5
    obtain ⟨F, rfl⟩ : ∃ F, f = F + 80 := ⟨f - 80, by omega⟩
    have hT := hB.fg (by decide) hF
    have g : ¬ ν 49 10 < ν 49 8 := by rw [h3, hT.1]; exact nI_nlt (by omega) (by omega)
    have hh := hc ν hF (by rw [h3]; exact congrArg nI hb) (h5.trans hw)
    refine unO ?_
    refine brF g ?_
    first | exact hh | (refine brT cm48 ?_; exact hh)
  | succ m ih =>
    intro p f v ν hp hf hb hw hF h3 h5
    obtain ⟨F, rfl⟩ : ∃ F, f = F + 80 := ⟨f - 80, by omega⟩
    have hT := hB.fg (by decide) hF
    have g : ν 49 10 < ν 49 8 := by rw [h3, hT.1]; exact nI_lt (by omega) (by omega)
    have gi : inB (ν 49 10) 120 = true := by rw [h3]; exact inB_nI (by omega) (by decide)
    have gx : ν 54 (ν 49 10).toNatClampNeg = tp p := by rw [h3, nI_cl (by omega)]; exact hT.2 p (by omega)
    refine unO ?_
    refine brT g ?_
    refine (@bfT _ _ _ _ _ (gi)) ?_
    cases h : isDg (tp p) with
    | true =>
      obtain ⟨q1, q2⟩ := isDg_T h
      rw [← gx] at q1 q2
      refine brF q1 ?_
      refine brF q2 ?_
      refine brT g ?_
      refine (@bfT _ _ _ _ _ (gi)) ?_
      refine ih (p + 1) _ (minI (10 * v + tp p - 48) 1000) (up2 (up2 ν 49 12 (minI 1000 (10 * ν 49 12 + ν 54 (ν 49 10).toNatClampNeg - 48))) 49 10 (ν 49 10 + 1)) (by omega) (by omega) ?_ ?_ ((hF.up (by decide)).up (by decide)) ?_ ?_
      · rw [← hb]; exact (rn_T h).symm
      · rw [← hw]; exact (dgV_T h).symm
      · show ν 49 10 + 1 = _
        rw [h3, nI_1]
      · show minI 1000 (10 * ν 49 12 + ν 54 (ν 49 10).toNatClampNeg - 48) = _
        rw [gx, h5, minI_comm]
    | false =>
      have hh := hc ν hF (by rw [h3, ← hb, rn_F h]) (by rw [h5, ← hw, dgV_F h])
      rcases isDg_F h with q1 | ⟨q1, q2⟩
      · rw [← gx] at q1
        refine brT q1 ?_
        exact hh
      · rw [← gx] at q1 q2
        refine brF q1 ?_
        refine brT q2 ?_
        exact hh
set_option maxRecDepth 100000 in
theorem e_token {μ : Mem} {k : Rtn} {X : Option Rz} {tp : Nat → Int32} {n p : Nat} (hn : n ≤ 120) (hV : ∀ j, j < n → VB (tp j) 255) (hp : p ≤ n) (hB : MB tp n μ) (h4 : μ 49 10 = nI p) (hk : ∀ ν, FG 49 [9, 10, 11, 12] μ ν → TM tp n ν p → k none ν = X) : S_X5_token [.ref 49] μ k = X := by
  refine unl (bfT rfl ?_)
  refine msp_loop (μ := μ) (b := bg tp n p) hn hB (fun F ν hf hF e3 => ?_) (n - p) p _ _ (by omega) (fu2 (by omega) rfl) rfl (FG.up FG.rf (by decide)) h4
  obtain ⟨G, rfl⟩ : ∃ G, F = G + 200 := ⟨F - 200, by omega⟩
  have hT := hB.fg (by decide) hF
  have hF' := hF.mo (L2 := [9, 10, 11, 12]) (by decide)
  have hb := bg_b (tp := tp) hp
  have bx : bg tp n p < n → (ν 49 9 < ν 49 8 ∧ inB (ν 49 9) 120 = true ∧ ν 54 (ν 49 9).toNatClampNeg = tp (bg tp n p) ∧ ¬ ν 54 (ν 49 9).toNatClampNeg < 0) := fun q => by
    have e : ν 54 (ν 49 9).toNatClampNeg = tp (bg tp n p) := by rw [e3, nI_cl (by omega)]; exact hT.2 _ q
    refine ⟨?_, ?_, e, ?_⟩
    · rw [e3, hT.1]; exact nI_lt (by omega) (by omega)
    · rw [e3]; exact inB_nI (by omega) (by decide)
    · rw [e]
      obtain ⟨m, hm, em⟩ := hV _ q
      rw [em]
      exact nI_nl (by omega)
  rcases tok_cases tp n p with ⟨a, b, c, d, e⟩ | ⟨a, a2, b, c, d, e⟩ | ⟨a, a2, a3, b, c, d, e⟩ | ⟨a, a2, a3, b, c, d, e⟩
  · have g : ¬ ν 49 9 < ν 49 8 := by rw [e3, hT.1]; exact nI_nlt (by omega) (by omega)
    have hh := hk (up2 (up2 (up2 ν 49 10 (ν 49 9)) 49 12 0) 49 11 0) (((hF'.up (by decide)).up (by decide)).up (by decide)) ⟨e3, by rw [c]; exact e3, by rw [b]; rfl, by rw [d]; rfl⟩
    refine brF g ?_
    first | exact hh | (refine brT cm0 ?_; exact hh)
  · obtain ⟨g, gi, gx, g0⟩ := bx a
    obtain ⟨q1, q2⟩ := isLt_T a2
    rw [← gx] at q1 q2
    refine brT g ?_
    refine (@bfT _ _ _ _ _ (gi)) ?_
    refine brF g0 ?_
    refine brF q1 ?_
    refine brF q2 ?_
    refine mlt_loop (μ := up2 (up2 (up2 ν 49 10 (ν 49 9)) 49 12 0) 49 11 1) (b := en tp n p) hn (hT.fg (L := [10, 11, 12]) (by decide) (((FG.rf.up (by decide)).up (by decide)).up (by decide))) (fun ν2 hF2 e4 => ?_) (n - bg tp n p) (bg tp n p) _ _ (by omega) (by omega) c.symm FG.rf e3
    refine hk _ ((((hF'.up (by decide)).up (by decide)).up (by decide)).tr (hF2.mo (by decide))) ⟨?_, e4, ?_, ?_⟩
    · rw [hF2.2 9 (by decide)]; exact e3
    · rw [hF2.2 11 (by decide), b]; rfl
    · rw [hF2.2 12 (by decide), d]; rfl
  · obtain ⟨g, gi, gx, g0⟩ := bx a
    obtain ⟨q1, q2⟩ := isDg_T a3
    rw [← gx] at q1 q2
    have fin : ∀ ν2 : Mem, FG 49 [10, 12] (up2 (up2 (up2 ν 49 10 (ν 49 9)) 49 12 0) 49 11 2) ν2 → ν2 49 10 = nI (en tp n p) → ν2 49 12 = val tp n p → k none ν2 = X := by
      intro ν2 hF2 e4 e5
      refine hk _ ((((hF'.up (by decide)).up (by decide)).up (by decide)).tr (hF2.mo (by decide))) ⟨?_, e4, ?_, e5⟩
      · rw [hF2.2 9 (by decide)]; exact e3
      · rw [hF2.2 11 (by decide), b]; rfl
    refine brT g ?_
    refine (@bfT _ _ _ _ _ (gi)) ?_
    refine brF g0 ?_
    rcases isLt_F a2 with z1 | ⟨z1, z2⟩
    · rw [← gx] at z1
      refine brT z1 ?_
      refine brF q1 ?_
      refine brF q2 ?_
      exact mdg_loop (μ := up2 (up2 (up2 ν 49 10 (ν 49 9)) 49 12 0) 49 11 2) (b := en tp n p) (w := val tp n p) hn (hT.fg (L := [10, 11, 12]) (by decide) (((FG.rf.up (by decide)).up (by decide)).up (by decide))) fin (n - bg tp n p) (bg tp n p) _ 0 _ (by omega) (by omega) c.symm d.symm FG.rf e3 rfl
    · rw [← gx] at z1 z2
      refine brF z1 ?_
      refine brT z2 ?_
      refine brF q1 ?_
      refine brF q2 ?_
      exact mdg_loop (μ := up2 (up2 (up2 ν 49 10 (ν 49 9)) 49 12 0) 49 11 2) (b := en tp n p) (w := val tp n p) hn (hT.fg (L := [10, 11, 12]) (by decide) (((FG.rf.up (by decide)).up (by decide)).up (by decide))) fin (n - bg tp n p) (bg tp n p) _ 0 _ (by omega) (by omega) c.symm d.symm FG.rf e3 rfl
  · obtain ⟨g, gi, gx, g0⟩ := bx a
    have fin : k none (up2 (up2 (up2 (up2 ν 49 10 (ν 49 9)) 49 12 0) 49 11 3) 49 10 (ν 49 9 + 1)) = X := by
      refine hk _ ((((hF'.up (by decide)).up (by decide)).up (by decide)).up (by decide)) ⟨e3, ?_, by rw [b]; rfl, by rw [d]; rfl⟩
      show ν 49 9 + 1 = _
      rw [e3, c, nI_1]
    refine brT g ?_
    refine (@bfT _ _ _ _ _ (gi)) ?_
    refine brF g0 ?_
    rcases isLt_F a2 with z1 | ⟨z1, z2⟩
    · rw [← gx] at z1
      refine brT z1 ?_
      rcases isDg_F a3 with y1 | ⟨y1, y2⟩
      · rw [← gx] at y1
        refine brT y1 ?_
        exact fin
      · rw [← gx] at y1 y2
        refine brF y1 ?_
        refine brT y2 ?_
        exact fin
    · rw [← gx] at z1 z2
      refine brF z1 ?_
      refine brT z2 ?_
      rcases isDg_F a3 with y1 | ⟨y1, y2⟩
      · rw [← gx] at y1
        refine brT y1 ?_
        exact fin
      · rw [← gx] at y1 y2
        refine brF y1 ?_
        refine brT y2 ?_
        exact fin
