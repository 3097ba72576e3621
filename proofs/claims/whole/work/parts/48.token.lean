/-! texts: tokens -/
def isSp (x : Int32) : Bool := decide (x = 32)
def isLt (x : Int32) : Bool := bif decide (x < 97) then false else bif decide (122 < x) then false else true
def isDg (x : Int32) : Bool := bif decide (x < 48) then false else bif decide (57 < x) then false else true
theorem isLt_T {x : Int32} (h : isLt x = true) : ¬ x < 97 ∧ ¬ 122 < x := by
  unfold isLt at h
  by_cases a : x < 97
  · rw [decide_eq_true a] at h; cases h
  · by_cases b : 122 < x
    · rw [decide_eq_false a, decide_eq_true b] at h; cases h
    · exact ⟨a, b⟩
theorem isLt_F {x : Int32} (h : isLt x = false) : x < 97 ∨ (¬ x < 97 ∧ 122 < x) := by
  unfold isLt at h
  by_cases a : x < 97
  · exact Or.inl a
  · by_cases b : 122 < x
    · exact Or.inr ⟨a, b⟩
    · rw [decide_eq_false a, decide_eq_false b] at h; cases h
theorem isDg_T {x : Int32} (h : isDg x = true) : ¬ x < 48 ∧ ¬ 57 < x := by
  unfold isDg at h
  by_cases a : x < 48
  · rw [decide_eq_true a] at h; cases h
  · by_cases b : 57 < x
    · rw [decide_eq_false a, decide_eq_true b] at h; cases h
    · exact ⟨a, b⟩
theorem isDg_F {x : Int32} (h : isDg x = false) : x < 48 ∨ (¬ x < 48 ∧ 57 < x) := by
  unfold isDg at h
  by_cases a : x < 48
  · exact Or.inl a
  · by_cases b : 57 < x
    · exact Or.inr ⟨a, b⟩
    · rw [decide_eq_false a, decide_eq_false b] at h; cases h
def rn (q : Int32 → Bool) (tp : Nat → Int32) : Nat → Nat → Nat
  | 0, p => p
  | m + 1, p => bif q (tp p) then rn q tp m (p + 1) else p
def dgV (tp : Nat → Int32) : Nat → Nat → Int32 → Int32
  | 0, _, v => v
  | m + 1, p, v => bif isDg (tp p) then dgV tp m (p + 1) (minI (10 * v + tp p - 48) 1000) else v
theorem rn_T {q : Int32 → Bool} {tp : Nat → Int32} {m p : Nat} (h : q (tp p) = true) : rn q tp (m + 1) p = rn q tp m (p + 1) := by
  show (bif q (tp p) then rn q tp m (p + 1) else p) = _
  rw [h]; rfl
theorem rn_F {q : Int32 → Bool} {tp : Nat → Int32} {m p : Nat} (h : q (tp p) = false) : rn q tp m p = p := by
  cases m with
  | zero => rfl
  | succ m =>
    show (bif q (tp p) then rn q tp m (p + 1) else p) = _
    rw [h]; rfl
theorem rn_b {q : Int32 → Bool} {tp : Nat → Int32} : ∀ m p, p ≤ rn q tp m p ∧ rn q tp m p ≤ p + m := by
  intro m
  induction m with
  | zero => intro p; exact ⟨Nat.le_refl _, Nat.le_refl _⟩
  | succ m ih =>
    intro p
    cases h : q (tp p) with
    | true => rw [rn_T h]; have := ih (p + 1); omega
    | false => rw [rn_F h]; omega
theorem dgV_T {tp : Nat → Int32} {m p : Nat} {v : Int32} (h : isDg (tp p) = true) : dgV tp (m + 1) p v = dgV tp m (p + 1) (minI (10 * v + tp p - 48) 1000) := by
  show (bif isDg (tp p) then dgV tp m (p + 1) (minI (10 * v + tp p - 48) 1000) else v) = _
  rw [h]; rfl
theorem dgV_F {tp : Nat → Int32} {m p : Nat} {v : Int32} (h : isDg (tp p) = false) : dgV tp m p v = v := by
  cases m with
  | zero => rfl
  | succ m =>
    show (bif isDg (tp p) then dgV tp m (p + 1) (minI (10 * v + tp p - 48) 1000) else v) = _
    rw [h]; rfl
/-- the token behind a place: its first byte, the byte behind it, what it is, its value; what the class calls it -/
def bg (tp : Nat → Int32) (n p : Nat) : Nat := rn isSp tp (n - p) p
def srt (tp : Nat → Int32) (n p : Nat) : Int32 := bif Nat.ble n (bg tp n p) then 0 else bif isLt (tp (bg tp n p)) then 1 else bif isDg (tp (bg tp n p)) then 2 else 3
def en (tp : Nat → Int32) (n p : Nat) : Nat := bif Nat.ble n (bg tp n p) then bg tp n p else bif isLt (tp (bg tp n p)) then rn isLt tp (n - bg tp n p) (bg tp n p) else bif isDg (tp (bg tp n p)) then rn isDg tp (n - bg tp n p) (bg tp n p) else bg tp n p + 1
def val (tp : Nat → Int32) (n p : Nat) : Int32 := bif Nat.ble n (bg tp n p) then 0 else bif isLt (tp (bg tp n p)) then 0 else bif isDg (tp (bg tp n p)) then dgV tp (n - bg tp n p) (bg tp n p) 0 else 0
def xk (tp : Nat → Int32) (n p : Nat) : Int32 := bif Nat.ble n (bg tp n p) then 0 else bif isLt (tp (bg tp n p)) then 1 else bif isDg (tp (bg tp n p)) then 2 else bif decide (tp (bg tp n p) = 59) then 3 else 4
theorem tok_cases (tp : Nat → Int32) (n p : Nat) : (n ≤ bg tp n p ∧ srt tp n p = 0 ∧ en tp n p = bg tp n p ∧ val tp n p = 0 ∧ xk tp n p = 0) ∨ (bg tp n p < n ∧ isLt (tp (bg tp n p)) = true ∧ srt tp n p = 1 ∧ en tp n p = rn isLt tp (n - bg tp n p) (bg tp n p) ∧ val tp n p = 0 ∧ xk tp n p = 1) ∨ (bg tp n p < n ∧ isLt (tp (bg tp n p)) = false ∧ isDg (tp (bg tp n p)) = true ∧ srt tp n p = 2 ∧ en tp n p = rn isDg tp (n - bg tp n p) (bg tp n p) ∧ val tp n p = dgV tp (n - bg tp n p) (bg tp n p) 0 ∧ xk tp n p = 2) ∨ (bg tp n p < n ∧ isLt (tp (bg tp n p)) = false ∧ isDg (tp (bg tp n p)) = false ∧ srt tp n p = 3 ∧ en tp n p = bg tp n p + 1 ∧ val tp n p = 0 ∧ xk tp n p = bif decide (tp (bg tp n p) = 59) then 3 else 4) := by
  unfold srt en val xk
  by_cases h : n ≤ bg tp n p
  · rw [bleT h]
    exact Or.inl ⟨h, rfl, rfl, rfl, rfl⟩
  · rw [bleF h]
    cases hl : isLt (tp (bg tp n p)) with
    | true => exact Or.inr (Or.inl ⟨by omega, rfl, rfl, rfl, rfl, rfl⟩)
    | false =>
      cases hd : isDg (tp (bg tp n p)) with
      | true => exact Or.inr (Or.inr (Or.inl ⟨by omega, rfl, rfl, rfl, rfl, rfl, rfl⟩))
      | false => exact Or.inr (Or.inr (Or.inr ⟨by omega, rfl, rfl, rfl, rfl, rfl, rfl⟩))
theorem bg_b {tp : Nat → Int32} {n p : Nat} (hp : p ≤ n) : p ≤ bg tp n p ∧ bg tp n p ≤ n := by
  have := rn_b (q := isSp) (tp := tp) (n - p) p
  unfold bg
  omega
theorem en_b {tp : Nat → Int32} {n p : Nat} (hp : p ≤ n) : bg tp n p ≤ en tp n p ∧ en tp n p ≤ n := by
  have h1 := bg_b (tp := tp) hp
  rcases tok_cases tp n p with ⟨a, b, c, d, e⟩ | ⟨a, a2, b, c, d, e⟩ | ⟨a, a2, a3, b, c, d, e⟩ | ⟨a, a2, a3, b, c, d, e⟩
  · rw [c]; omega
  · rw [c]; have := rn_b (q := isLt) (tp := tp) (n - bg tp n p) (bg tp n p); omega
  · rw [c]; have := rn_b (q := isDg) (tp := tp) (n - bg tp n p) (bg tp n p); omega
  · rw [c]; omega
theorem rn_s {q : Int32 → Bool} {tp : Nat → Int32} {n b : Nat} (hb : b < n) (h : q (tp b) = true) : b + 1 ≤ rn q tp (n - b) b := by
  obtain ⟨m, hm⟩ : ∃ m, n - b = m + 1 := ⟨n - b - 1, by omega⟩
  rw [hm, rn_T h]
  exact (rn_b _ _).1
theorem en_s {tp : Nat → Int32} {n p : Nat} (h : ¬ srt tp n p = 0) : bg tp n p < n ∧ bg tp n p + 1 ≤ en tp n p := by
  rcases tok_cases tp n p with ⟨a, b, c, d, e⟩ | ⟨a, a2, b, c, d, e⟩ | ⟨a, a2, a3, b, c, d, e⟩ | ⟨a, a2, a3, b, c, d, e⟩
  · exact absurd b h
  · rw [c]; exact ⟨a, rn_s a a2⟩
  · rw [c]; exact ⟨a, rn_s a a3⟩
  · rw [c]; exact ⟨a, Nat.le_refl _⟩
/-- nothing but some numbers of one cell has changed -/
def FG (c : Nat) (L : List Nat) (μ ν : Mem) : Prop := (∀ i, ¬ i = c → ν i = μ i) ∧ ∀ g, ¬ g ∈ L → ν c g = μ c g
theorem FG.rf {c : Nat} {L : List Nat} {μ : Mem} : FG c L μ μ := ⟨fun _ _ => rfl, fun _ _ => rfl⟩
theorem FG.tr {c : Nat} {L : List Nat} {μ μ1 μ2 : Mem} (h1 : FG c L μ μ1) (h2 : FG c L μ1 μ2) : FG c L μ μ2 := ⟨fun i h => (h2.1 i h).trans (h1.1 i h), fun g h => (h2.2 g h).trans (h1.2 g h)⟩
theorem FG.mo {c : Nat} {L L2 : List Nat} {μ ν : Mem} (h : FG c L μ ν) (hL : ∀ g, g ∈ L → g ∈ L2) : FG c L2 μ ν := ⟨h.1, fun g q => h.2 g (fun z => q (hL g z))⟩
theorem FG.up {c : Nat} {L : List Nat} {μ ν : Mem} (h : FG c L μ ν) {g : Nat} {v : Int32} (hg : g ∈ L) : FG c L μ (up2 ν c g v) := by
  refine ⟨fun i hi => (up2_ne _ _ hi).trans (h.1 i hi), fun j hj => ?_⟩
  rw [up2_at, upf_ne _ _ (fun e => hj (by rw [e]; exact hg))]
  exact h.2 j hj
theorem fu2 {a b : Nat} (h : a ≤ 20000) (hb : Nat.ble 20000 b = true) : a ≤ b := Nat.le_trans h (Nat.le_of_ble_eq_true hb)
/-- the class's tape -/
def TB (tp : Nat → Int32) (n : Nat) (ν : Mem) : Prop := ν 37 1 = nI n ∧ ∀ j, j < n → ν 38 j = tp j
theorem TB.fg {tp : Nat → Int32} {n : Nat} {μ ν : Mem} {L : List Nat} (h : TB tp n μ) (hL : ¬ 1 ∈ L) (hF : FG 37 L μ ν) : TB tp n ν := by
  refine ⟨(hF.2 1 hL).trans h.1, fun j hj => ?_⟩
  rw [hF.1 38 (by decide)]
  exact h.2 j hj
def TX (tp : Nat → Int32) (n : Nat) (ν : Mem) (p : Nat) : Prop := ν 37 2 = xk tp n p ∧ ν 37 3 = nI (bg tp n p) ∧ ν 37 4 = nI (en tp n p) ∧ (srt tp n p = 2 → ν 37 5 = val tp n p)
set_option maxRecDepth 100000 in
theorem xsp_loop {k : Rtn} {X : Option Rz} {tp : Nat → Int32} {n b : Nat} {μ : Mem} (hn : n ≤ 120) (hB : TB tp n μ) (hc : ∀ F ν, 10000 ≤ F → FG 37 [3] μ ν → ν 37 3 = nI b → runK P_X3_step F k 46 [some (.ref 37)] [] ν = X) :
    ∀ (m p f : Nat) (ν : Mem), p + m = n → 60 * m + 12000 ≤ f → rn isSp tp m p = b → FG 37 [3] μ ν → ν 37 3 = nI p → lockO (oALd 0 9) 0 (runK P_X3_step f k) k [some (.ref 37)] [] ν = X := by
  intro m
  induction m with
  | zero =>
    intro p f ν hp hf hb hF h3
    obtain ⟨F, rfl⟩ : ∃ F, f = F + 60 := ⟨f - 60, by omega⟩
    have hT := hB.fg (by decide) hF
    have g : ¬ ν 37 3 < ν 37 1 := by rw [h3, hT.1]; exact nI_nlt (by omega) (by omega)
    refine unO ?_
    refine brF g ?_
    exact hc _ _ (by omega) hF (by rw [h3]; exact congrArg nI hb)
  | succ m ih =>
    intro p f ν hp hf hb hF h3
    obtain ⟨F, rfl⟩ : ∃ F, f = F + 60 := ⟨f - 60, by omega⟩
    have hT := hB.fg (by decide) hF
    have g : ν 37 3 < ν 37 1 := by rw [h3, hT.1]; exact nI_lt (by omega) (by omega)
    have gi : inB (ν 37 3) 120 = true := by rw [h3]; exact inB_nI (by omega) (by decide)
    have gx : ν 38 (ν 37 3).toNatClampNeg = tp p := by rw [h3, nI_cl (by omega)]; exact hT.2 p (by omega)
    refine unO ?_
    refine brT g ?_
    refine (@bfT _ _ _ _ _ (gi)) ?_
    by_cases h : tp p = 32
    · refine brT (gx.trans h) ?_
      refine ih (p + 1) _ (up2 ν 37 3 (ν 37 3 + 1)) (by omega) (by omega) ?_ (hF.up (by decide)) ?_
      · rw [← hb]; exact (rn_T (q := isSp) (decide_eq_true h)).symm
      · show ν 37 3 + 1 = _
        rw [h3, nI_1]
    · refine brF (fun q => h (gx.symm.trans q)) ?_
      refine hc _ _ (by omega) hF ?_
      rw [h3, ← hb, rn_F (q := isSp) (decide_eq_false h)]
set_option maxRecDepth 100000 in
theorem xlt_loop {k : Rtn} {X : Option Rz} {tp : Nat → Int32} {n b : Nat} {μ : Mem} (hn : n ≤ 120) (hB : TB tp n μ) (hc : ∀ ν, FG 37 [4] μ ν → ν 37 4 = nI b → k none ν = X) :
    ∀ (m p f : Nat) (ν : Mem), p + m = n → 60 * m + 60 ≤ f → rn isLt tp m p = b → FG 37 [4] μ ν → ν 37 4 = nI p → lockO (oALd 0 94) 0 (runK P_X3_step f k) k [some (.ref 37)] [] ν = X := by
  intro m
  induction m with
  | zero =>
    intro p f ν hp hf hb hF h3
    obtain ⟨F, rfl⟩ : ∃ F, f = F + 60 := ⟨f - 60, by omega⟩
    have hT := hB.fg (by decide) hF
    have g : ¬ ν 37 4 < ν 37 1 := by rw [h3, hT.1]; exact nI_nlt (by omega) (by omega)
    refine unO ?_
    refine brF g ?_
    exact hc _ hF (by rw [h3]; exact congrArg nI hb)
  | succ m ih =>
    intro p f ν hp hf hb hF h3
    obtain ⟨F, rfl⟩ : ∃ F, f = F + 60 := ⟨f - 60, by omega⟩
    have hT := hB.fg (by decide) hF
    have g : ν 37 4 < ν 37 1 := by rw [h3, hT.1]; exact nI_lt (by omega) (by omega)
    have gi : inB (ν 37 4) 120 = true := by rw [h3]; exact inB_nI (by omega) (by decide)
    have gx : ν 38 (ν 37 4).toNatClampNeg = tp p := by rw [h3, nI_cl (by omega)]; exact hT.2 p (by omega)
    refine unO ?_
    refine brT g ?_
    refine (@bfT _ _ _ _ _ (gi)) ?_
    cases h : isLt (tp p) with
    | true =>
      obtain ⟨q1, q2⟩ := isLt_T h
      rw [← gx] at q1 q2
      refine brF q1 ?_
      refine brF q2 ?_
      refine ih (p + 1) _ (up2 ν 37 4 (ν 37 4 + 1)) (by omega) (by omega) ?_ (hF.up (by decide)) ?_
      · rw [← hb]; exact (rn_T h).symm
      · show ν 37 4 + 1 = _
        rw [h3, nI_1]
    | false =>
      have hh := hc ν hF (by rw [h3, ← hb, rn_F h])
      rcases isLt_F h with q1 | ⟨q1, q2⟩
      · rw [← gx] at q1
        refine brT q1 ?_
        exact hh
      · rw [← gx] at q1 q2
        refine brF q1 ?_
        refine brT q2 ?_
        exact hh
set_option maxRecDepth 100000 in
theorem xdg_loop {k : Rtn} {X : Option Rz} {tp : Nat → Int32} {n b : Nat} {w : Int32} {μ : Mem} (hn : n ≤ 120) (hB : TB tp n μ) (hc : ∀ ν, FG 37 [4, 5] μ ν → ν 37 4 = nI b → ν 37 5 = w → k none ν = X) :
    ∀ (m p f : Nat) (v : Int32) (ν : Mem), p + m = n → 60 * m + 60 ≤ f → rn isDg tp m p = b → dgV tp m p v = w → FG 37 [4, 5] μ ν → ν 37 4 = nI p → ν 37 5 = v → lockO (oALd 0 158) 0 (runK P_X3_step f k) k [some (.ref 37)] [] ν = X := by
  intro m
  induction m with
  | zero =>
    intro p f v ν hp hf hb hw hF h3 h5
    obtain ⟨F, rfl⟩ : ∃ F, f = F + 60 := ⟨f - 60, by omega⟩
    have hT := hB.fg (by decide) hF
    have g : ¬ ν 37 4 < ν 37 1 := by rw [h3, hT.1]; exact nI_nlt (by omega) (by omega)
    refine unO ?_
    refine brF g ?_
    exact hc _ hF (by rw [h3]; exact congrArg nI hb) (h5.trans hw)
  | succ m ih =>
    intro p f v ν hp hf hb hw hF h3 h5
    obtain ⟨F, rfl⟩ : ∃ F, f = F + 60 := ⟨f - 60, by omega⟩
    have hT := hB.fg (by decide) hF
    have g : ν 37 4 < ν 37 1 := by rw [h3, hT.1]; exact nI_lt (by omega) (by omega)
    have gi : inB (ν 37 4) 120 = true := by rw [h3]; exact inB_nI (by omega) (by decide)
    have gx : ν 38 (ν 37 4).toNatClampNeg = tp p := by rw [h3, nI_cl (by omega)]; exact hT.2 p (by omega)
    refine unO ?_
    refine brT g ?_
    refine (@bfT _ _ _ _ _ (gi)) ?_
    cases h : isDg (tp p) with
    | true =>
      obtain ⟨q1, q2⟩ := isDg_T h
      rw [← gx] at q1 q2
      refine brF q1 ?_
      refine brF q2 ?_
      refine (@bfT _ _ _ _ _ (gi)) ?_
      refine ih (p + 1) _ (minI (10 * v + tp p - 48) 1000) (up2 (up2 ν 37 5 (minI (10 * ν 37 5 + ν 38 (ν 37 4).toNatClampNeg - 48) 1000)) 37 4 (ν 37 4 + 1)) (by omega) (by omega) ?_ ?_ ((hF.up (by decide)).up (by decide)) ?_ ?_
      · rw [← hb]; exact (rn_T h).symm
      · rw [← hw]; exact (dgV_T h).symm
      · show ν 37 4 + 1 = _
        rw [h3, nI_1]
      · show minI (10 * ν 37 5 + ν 38 (ν 37 4).toNatClampNeg - 48) 1000 = _
        rw [gx, h5]
    | false =>
      have hh := hc ν hF (by rw [h3, ← hb, rn_F h]) (by rw [h5, ← hw, dgV_F h])
      rcases isDg_F h with q1 | ⟨q1, q2⟩
      · rw [← gx] at q1
        refine brT q1 ?_
        exact hh
      · rw [← gx] at q1 q2
        refine brF q1 ?_
        refine brT q2 ?_
        exact hh
set_option maxRecDepth 100000 in
theorem x_step {μ : Mem} {k : Rtn} {X : Option Rz} {tp : Nat → Int32} {n p : Nat} (hn : n ≤ 120) (hp : p ≤ n) (hB : TB tp n μ) (h4 : μ 37 4 = nI p) (hk : ∀ ν, FG 37 [2, 3, 4, 5] μ ν → TX tp n ν p → k none ν = X) : S_X3_step [.ref 37] μ k = X := by
  refine unl (bfT rfl ?_)
  refine xsp_loop (μ := μ) (b := bg tp n p) hn hB (fun F ν hf hF e3 => ?_) (n - p) p _ _ (by omega) (fu2 (by omega) rfl) rfl (FG.up FG.rf (by decide)) h4
  obtain ⟨G, rfl⟩ : ∃ G, F = G + 200 := ⟨F - 200, by omega⟩
  have hT := hB.fg (by decide) hF
  have hF' := hF.mo (L2 := [2, 3, 4, 5]) (by decide)
  have hb := bg_b (tp := tp) hp
  have bx : bg tp n p < n → (ν 37 3 < ν 37 1 ∧ inB (ν 37 3) 120 = true ∧ ν 38 (ν 37 3).toNatClampNeg = tp (bg tp n p)) := fun q => by
    rw [e3, hT.1, nI_cl (by omega)]
    exact ⟨nI_lt (by omega) (by omega), inB_nI (by omega) (by decide), hT.2 _ q⟩
  rcases tok_cases tp n p with ⟨a, b, c, d, e⟩ | ⟨a, a2, b, c, d, e⟩ | ⟨a, a2, a3, b, c, d, e⟩ | ⟨a, a2, a3, b, c, d, e⟩
  · have g : ¬ ν 37 3 < ν 37 1 := by rw [e3, hT.1]; exact nI_nlt (by omega) (by omega)
    refine brF g ?_
    refine hk _ ((hF'.up (by decide)).up (by decide)) ⟨?_, e3, ?_, fun q => ?_⟩
    · rw [e]; rfl
    · rw [c]; exact e3
    · rw [b] at q; exact absurd q (by decide)
  · obtain ⟨g, gi, gx⟩ := bx a
    obtain ⟨q1, q2⟩ := isLt_T a2
    rw [← gx] at q1 q2
    refine brT g ?_
    refine (@bfT _ _ _ _ _ (gi)) ?_
    refine brF q1 ?_
    refine brF q2 ?_
    refine xlt_loop (μ := up2 (up2 ν 37 4 (ν 37 3)) 37 2 1) (b := en tp n p) hn (hT.fg (L := [2, 4]) (by decide) ((FG.rf.up (by decide)).up (by decide))) (fun ν2 hF2 e4 => ?_) (n - bg tp n p) (bg tp n p) _ _ (by omega) (by omega) c.symm FG.rf e3
    refine hk _ (((hF'.up (by decide)).up (by decide)).tr (hF2.mo (by decide))) ⟨?_, ?_, e4, fun q => ?_⟩
    · rw [hF2.2 2 (by decide), e]; rfl
    · rw [hF2.2 3 (by decide)]; exact e3
    · rw [b] at q; exact absurd q (by decide)
  · obtain ⟨g, gi, gx⟩ := bx a
    obtain ⟨q1, q2⟩ := isDg_T a3
    rw [← gx] at q1 q2
    have fin : ∀ ν2 : Mem, FG 37 [4, 5] (up2 (up2 (up2 ν 37 4 (ν 37 3)) 37 2 2) 37 5 0) ν2 → ν2 37 4 = nI (en tp n p) → ν2 37 5 = val tp n p → k none ν2 = X := by
      intro ν2 hF2 e4 e5
      refine hk _ ((((hF'.up (by decide)).up (by decide)).up (by decide)).tr (hF2.mo (by decide))) ⟨?_, ?_, e4, fun _ => e5⟩
      · rw [hF2.2 2 (by decide), e]; rfl
      · rw [hF2.2 3 (by decide)]; exact e3
    refine brT g ?_
    refine (@bfT _ _ _ _ _ (gi)) ?_
    rcases isLt_F a2 with z1 | ⟨z1, z2⟩
    · rw [← gx] at z1
      refine brT z1 ?_
      refine (@bfT _ _ _ _ _ (gi)) ?_
      refine brF q1 ?_
      refine brF q2 ?_
      exact xdg_loop (μ := up2 (up2 (up2 ν 37 4 (ν 37 3)) 37 2 2) 37 5 0) (b := en tp n p) (w := val tp n p) hn (hT.fg (L := [2, 4, 5]) (by decide) (((FG.rf.up (by decide)).up (by decide)).up (by decide))) fin (n - bg tp n p) (bg tp n p) _ 0 _ (by omega) (by omega) c.symm d.symm FG.rf e3 rfl
    · rw [← gx] at z1 z2
      refine brF z1 ?_
      refine brT z2 ?_
      refine (@bfT _ _ _ _ _ (gi)) ?_
      refine brF q1 ?_
      refine brF q2 ?_
      exact xdg_loop (μ := up2 (up2 (up2 ν 37 4 (ν 37 3)) 37 2 2) 37 5 0) (b := en tp n p) (w := val tp n p) hn (hT.fg (L := [2, 4, 5]) (by decide) (((FG.rf.up (by decide)).up (by decide)).up (by decide))) fin (n - bg tp n p) (bg tp n p) _ 0 _ (by omega) (by omega) c.symm d.symm FG.rf e3 rfl
  · obtain ⟨g, gi, gx⟩ := bx a
    have fin : ∀ z : Int32, z = xk tp n p → k none (up2 (up2 (up2 ν 37 4 (ν 37 3)) 37 2 z) 37 4 (ν 37 3 + 1)) = X := by
      intro z hz
      refine hk _ (((hF'.up (by decide)).up (by decide)).up (by decide)) ⟨hz, e3, ?_, fun q => ?_⟩
      · show ν 37 3 + 1 = _
        rw [e3, c, nI_1]
      · rw [b] at q; exact absurd q (by decide)
    have sg : ∀ F2, runK P_X3_step (F2 + 60) k 226 [some (.ref 37)] [] (up2 ν 37 4 (ν 37 3)) = X := by
      intro F2
      by_cases h9 : tp (bg tp n p) = 59
      · refine (@bfT _ _ _ _ _ (gi)) ?_
        refine brT (gx.trans h9) ?_
        exact fin 3 (by rw [e, decide_eq_true h9]; rfl)
      · refine (@bfT _ _ _ _ _ (gi)) ?_
        refine brF (fun q => h9 (gx.symm.trans q)) ?_
        exact fin 4 (by rw [e, decide_eq_false h9]; rfl)
    have dg : ∀ F2, runK P_X3_step (F2 + 100) k 132 [some (.ref 37)] [] (up2 ν 37 4 (ν 37 3)) = X := by
      intro F2
      refine (@bfT _ _ _ _ _ (gi)) ?_
      rcases isDg_F a3 with z1 | ⟨z1, z2⟩
      · rw [← gx] at z1
        refine brT z1 ?_
        exact sg _
      · rw [← gx] at z1 z2
        refine brF z1 ?_
        refine brT z2 ?_
        exact sg _
    refine brT g ?_
    refine (@bfT _ _ _ _ _ (gi)) ?_
    rcases isLt_F a2 with z1 | ⟨z1, z2⟩
    · rw [← gx] at z1
      refine brT z1 ?_
      exact dg _
    · rw [← gx] at z1 z2
      refine brF z1 ?_
      refine brT z2 ?_
      exact dg _
