/-! texts: words -/
def byt (w j : Nat) : Int32 := (bytS.getD w []).getD j 0
def lnW (w : Nat) : Nat := lenS.getD w 0
def bI (b : Bool) : Int32 := bif b then 1 else 0
theorem lnW_b : ∀ w, w < 13 → 4 ≤ lnW w ∧ lnW w ≤ 9 := by decide
theorem kd11 : ∀ w, w < 13 → Nat.beq (kd (61 + w)) 11 = true := by decide
set_option maxRecDepth 100000 in
theorem x_len {μ : Mem} {k : Rtn} {X : Option Rz} {w x : Nat} (hx : x = 61 + w) (hw : w < 13) (hk : k (some (.int (nI (lnW w)))) μ = X) : S_J0_length_8abf5 [.ref x] μ k = X := by
  subst hx
  rcases (by omega : w = 0 ∨ w = 1 ∨ w = 2 ∨ w = 3 ∨ w = 4 ∨ w = 5 ∨ w = 6 ∨ w = 7 ∨ w = 8 ∨ w = 9 ∨ w = 10 ∨ w = 11 ∨ w = 12) with rfl | rfl | rfl | rfl | rfl | rfl | rfl | rfl | rfl | rfl | rfl | rfl | rfl
  all_goals (refine unl (bfT rfl ?_))
  all_goals exact hk
set_option maxRecDepth 100000 in
theorem x_ch0 {μ : Mem} {k : Rtn} {X : Option Rz} {j : Nat} (hj : j < 9) (hk : k (some (.int (byt 0 j))) μ = X) : S_J0_charAt_5068e [.ref 61, .int (nI j)] μ k = X := by
  rcases (by omega : j = 0 ∨ j = 1 ∨ j = 2 ∨ j = 3 ∨ j = 4 ∨ j = 5 ∨ j = 6 ∨ j = 7 ∨ j = 8) with rfl | rfl | rfl | rfl | rfl | rfl | rfl | rfl | rfl
  all_goals (refine unl (bfT rfl ?_))
  all_goals exact hk
set_option maxRecDepth 100000 in
theorem x_ch1 {μ : Mem} {k : Rtn} {X : Option Rz} {j : Nat} (hj : j < 4) (hk : k (some (.int (byt 1 j))) μ = X) : S_J0_charAt_5068e [.ref 62, .int (nI j)] μ k = X := by
  rcases (by omega : j = 0 ∨ j = 1 ∨ j = 2 ∨ j = 3) with rfl | rfl | rfl | rfl
  all_goals (refine unl (bfT rfl ?_))
  all_goals exact hk
set_option maxRecDepth 100000 in
theorem x_ch2 {μ : Mem} {k : Rtn} {X : Option Rz} {j : Nat} (hj : j < 6) (hk : k (some (.int (byt 2 j))) μ = X) : S_J0_charAt_5068e [.ref 63, .int (nI j)] μ k = X := by
  rcases (by omega : j = 0 ∨ j = 1 ∨ j = 2 ∨ j = 3 ∨ j = 4 ∨ j = 5) with rfl | rfl | rfl | rfl | rfl | rfl
  all_goals (refine unl (bfT rfl ?_))
  all_goals exact hk
set_option maxRecDepth 100000 in
theorem x_ch3 {μ : Mem} {k : Rtn} {X : Option Rz} {j : Nat} (hj : j < 6) (hk : k (some (.int (byt 3 j))) μ = X) : S_J0_charAt_5068e [.ref 64, .int (nI j)] μ k = X := by
  rcases (by omega : j = 0 ∨ j = 1 ∨ j = 2 ∨ j = 3 ∨ j = 4 ∨ j = 5) with rfl | rfl | rfl | rfl | rfl | rfl
  all_goals (refine unl (bfT rfl ?_))
  all_goals exact hk
set_option maxRecDepth 100000 in
theorem x_ch4 {μ : Mem} {k : Rtn} {X : Option Rz} {j : Nat} (hj : j < 6) (hk : k (some (.int (byt 4 j))) μ = X) : S_J0_charAt_5068e [.ref 65, .int (nI j)] μ k = X := by
  rcases (by omega : j = 0 ∨ j = 1 ∨ j = 2 ∨ j = 3 ∨ j = 4 ∨ j = 5) with rfl | rfl | rfl | rfl | rfl | rfl
  all_goals (refine unl (bfT rfl ?_))
  all_goals exact hk
set_option maxRecDepth 100000 in
theorem x_ch5 {μ : Mem} {k : Rtn} {X : Option Rz} {j : Nat} (hj : j < 5) (hk : k (some (.int (byt 5 j))) μ = X) : S_J0_charAt_5068e [.ref 66, .int (nI j)] μ k = X := by
  rcases (by omega : j = 0 ∨ j = 1 ∨ j = 2 ∨ j = 3 ∨ j = 4) with rfl | rfl | rfl | rfl | rfl
  all_goals (refine unl (bfT rfl ?_))
  all_goals exact hk
set_option maxRecDepth 100000 in
theorem x_ch6 {μ : Mem} {k : Rtn} {X : Option Rz} {j : Nat} (hj : j < 4) (hk : k (some (.int (byt 6 j))) μ = X) : S_J0_charAt_5068e [.ref 67, .int (nI j)] μ k = X := by
  rcases (by omega : j = 0 ∨ j = 1 ∨ j = 2 ∨ j = 3) with rfl | rfl | rfl | rfl
  all_goals (refine unl (bfT rfl ?_))
  all_goals exact hk
set_option maxRecDepth 100000 in
theorem x_ch7 {μ : Mem} {k : Rtn} {X : Option Rz} {j : Nat} (hj : j < 7) (hk : k (some (.int (byt 7 j))) μ = X) : S_J0_charAt_5068e [.ref 68, .int (nI j)] μ k = X := by
  rcases (by omega : j = 0 ∨ j = 1 ∨ j = 2 ∨ j = 3 ∨ j = 4 ∨ j = 5 ∨ j = 6) with rfl | rfl | rfl | rfl | rfl | rfl | rfl
  all_goals (refine unl (bfT rfl ?_))
  all_goals exact hk
set_option maxRecDepth 100000 in
theorem x_ch8 {μ : Mem} {k : Rtn} {X : Option Rz} {j : Nat} (hj : j < 6) (hk : k (some (.int (byt 8 j))) μ = X) : S_J0_charAt_5068e [.ref 69, .int (nI j)] μ k = X := by
  rcases (by omega : j = 0 ∨ j = 1 ∨ j = 2 ∨ j = 3 ∨ j = 4 ∨ j = 5) with rfl | rfl | rfl | rfl | rfl | rfl
  all_goals (refine unl (bfT rfl ?_))
  all_goals exact hk
set_option maxRecDepth 100000 in
theorem x_ch9 {μ : Mem} {k : Rtn} {X : Option Rz} {j : Nat} (hj : j < 6) (hk : k (some (.int (byt 9 j))) μ = X) : S_J0_charAt_5068e [.ref 70, .int (nI j)] μ k = X := by
  rcases (by omega : j = 0 ∨ j = 1 ∨ j = 2 ∨ j = 3 ∨ j = 4 ∨ j = 5) with rfl | rfl | rfl | rfl | rfl | rfl
  all_goals (refine unl (bfT rfl ?_))
  all_goals exact hk
set_option maxRecDepth 100000 in
theorem x_ch10 {μ : Mem} {k : Rtn} {X : Option Rz} {j : Nat} (hj : j < 5) (hk : k (some (.int (byt 10 j))) μ = X) : S_J0_charAt_5068e [.ref 71, .int (nI j)] μ k = X := by
  rcases (by omega : j = 0 ∨ j = 1 ∨ j = 2 ∨ j = 3 ∨ j = 4) with rfl | rfl | rfl | rfl | rfl
  all_goals (refine unl (bfT rfl ?_))
  all_goals exact hk
set_option maxRecDepth 100000 in
theorem x_ch11 {μ : Mem} {k : Rtn} {X : Option Rz} {j : Nat} (hj : j < 6) (hk : k (some (.int (byt 11 j))) μ = X) : S_J0_charAt_5068e [.ref 72, .int (nI j)] μ k = X := by
  rcases (by omega : j = 0 ∨ j = 1 ∨ j = 2 ∨ j = 3 ∨ j = 4 ∨ j = 5) with rfl | rfl | rfl | rfl | rfl | rfl
  all_goals (refine unl (bfT rfl ?_))
  all_goals exact hk
set_option maxRecDepth 100000 in
theorem x_ch12 {μ : Mem} {k : Rtn} {X : Option Rz} {j : Nat} (hj : j < 6) (hk : k (some (.int (byt 12 j))) μ = X) : S_J0_charAt_5068e [.ref 73, .int (nI j)] μ k = X := by
  rcases (by omega : j = 0 ∨ j = 1 ∨ j = 2 ∨ j = 3 ∨ j = 4 ∨ j = 5) with rfl | rfl | rfl | rfl | rfl | rfl
  all_goals (refine unl (bfT rfl ?_))
  all_goals exact hk
theorem x_chr {μ : Mem} {k : Rtn} {X : Option Rz} {w x j : Nat} (hx : x = 61 + w) (hw : w < 13) (hj : j < lnW w) (hk : k (some (.int (byt w j))) μ = X) : S_J0_charAt_5068e [.ref x, .int (nI j)] μ k = X := by
  subst hx
  rcases (by omega : w = 0 ∨ w = 1 ∨ w = 2 ∨ w = 3 ∨ w = 4 ∨ w = 5 ∨ w = 6 ∨ w = 7 ∨ w = 8 ∨ w = 9 ∨ w = 10 ∨ w = 11 ∨ w = 12) with rfl | rfl | rfl | rfl | rfl | rfl | rfl | rfl | rfl | rfl | rfl | rfl | rfl
  · exact x_ch0 hj hk
  · exact x_ch1 hj hk
  · exact x_ch2 hj hk
  · exact x_ch3 hj hk
  · exact x_ch4 hj hk
  · exact x_ch5 hj hk
  · exact x_ch6 hj hk
  · exact x_ch7 hj hk
  · exact x_ch8 hj hk
  · exact x_ch9 hj hk
  · exact x_ch10 hj hk
  · exact x_ch11 hj hk
  · exact x_ch12 hj hk
def eqB (tp : Nat → Int32) (b w : Nat) : Nat → Nat → Bool
  | 0, _ => true
  | m + 1, j => bif decide (tp (b + j) = byt w j) then eqB tp b w m (j + 1) else false
def isW (tp : Nat → Int32) (n w p : Nat) : Bool := bif decide (srt tp n p = 1) && Nat.beq (en tp n p) (bg tp n p + lnW w) then eqB tp (bg tp n p) w (lnW w) 0 else false
theorem xk_1 {tp : Nat → Int32} {n p : Nat} : (srt tp n p = 0 ∧ xk tp n p = 0) ∨ (srt tp n p = 1 ∧ xk tp n p = 1) ∨ (srt tp n p = 2 ∧ xk tp n p = 2) ∨ (srt tp n p = 3 ∧ tp (bg tp n p) = 59 ∧ xk tp n p = 3) ∨ (srt tp n p = 3 ∧ ¬ tp (bg tp n p) = 59 ∧ xk tp n p = 4) := by
  rcases tok_cases tp n p with ⟨a, b, c, d, e⟩ | ⟨a, a2, b, c, d, e⟩ | ⟨a, a2, a3, b, c, d, e⟩ | ⟨a, a2, a3, b, c, d, e⟩
  · exact Or.inl ⟨b, e⟩
  · exact Or.inr (Or.inl ⟨b, e⟩)
  · exact Or.inr (Or.inr (Or.inl ⟨b, e⟩))
  · by_cases h : tp (bg tp n p) = 59
    · rw [decide_eq_true h] at e
      exact Or.inr (Or.inr (Or.inr (Or.inl ⟨b, h, e⟩)))
    · rw [decide_eq_false h] at e
      exact Or.inr (Or.inr (Or.inr (Or.inr ⟨b, h, e⟩)))
theorem xk_w {tp : Nat → Int32} {n p : Nat} : xk tp n p = 1 ↔ srt tp n p = 1 := by
  rcases xk_1 (tp := tp) (n := n) (p := p) with ⟨a, b⟩ | ⟨a, b⟩ | ⟨a, b⟩ | ⟨a, c, b⟩ | ⟨a, c, b⟩ <;> rw [a, b] <;> decide
theorem xk_n {tp : Nat → Int32} {n p : Nat} : xk tp n p = 2 ↔ srt tp n p = 2 := by
  rcases xk_1 (tp := tp) (n := n) (p := p) with ⟨a, b⟩ | ⟨a, b⟩ | ⟨a, b⟩ | ⟨a, c, b⟩ | ⟨a, c, b⟩ <;> rw [a, b] <;> decide
theorem xk_e {tp : Nat → Int32} {n p : Nat} : xk tp n p = 0 ↔ srt tp n p = 0 := by
  rcases xk_1 (tp := tp) (n := n) (p := p) with ⟨a, b⟩ | ⟨a, b⟩ | ⟨a, b⟩ | ⟨a, c, b⟩ | ⟨a, c, b⟩ <;> rw [a, b] <;> decide
theorem xk_s {tp : Nat → Int32} {n p : Nat} : xk tp n p = 3 ↔ (srt tp n p = 3 ∧ tp (bg tp n p) = 59) := by
  rcases xk_1 (tp := tp) (n := n) (p := p) with ⟨a, b⟩ | ⟨a, b⟩ | ⟨a, b⟩ | ⟨a, c, b⟩ | ⟨a, c, b⟩
  · rw [a, b]; exact ⟨fun q => absurd q (by decide), fun q => absurd q.1 (by decide)⟩
  · rw [a, b]; exact ⟨fun q => absurd q (by decide), fun q => absurd q.1 (by decide)⟩
  · rw [a, b]; exact ⟨fun q => absurd q (by decide), fun q => absurd q.1 (by decide)⟩
  · rw [a, b]; exact ⟨fun _ => ⟨rfl, c⟩, fun _ => rfl⟩
  · rw [b]; exact ⟨fun q => absurd q (by decide), fun q => absurd q.2 c⟩
theorem isW_no {tp : Nat → Int32} {n w p : Nat} (h : ¬ srt tp n p = 1) : isW tp n w p = false := by
  unfold isW; rw [decide_eq_false h]; rfl
theorem isW_ln {tp : Nat → Int32} {n w p : Nat} (h : ¬ en tp n p = bg tp n p + lnW w) : isW tp n w p = false := by
  unfold isW; rw [beqF h, Bool.and_false]; rfl
theorem isW_eq {tp : Nat → Int32} {n w p : Nat} (h : srt tp n p = 1) (h2 : en tp n p = bg tp n p + lnW w) : isW tp n w p = eqB tp (bg tp n p) w (lnW w) 0 := by
  unfold isW; rw [decide_eq_true h, ← h2, beqT]; rfl
theorem isW_s {tp : Nat → Int32} {n w p : Nat} (h : isW tp n w p = true) : srt tp n p = 1 ∧ en tp n p = bg tp n p + lnW w ∧ eqB tp (bg tp n p) w (lnW w) 0 = true := by
  by_cases h1 : srt tp n p = 1
  · by_cases h2 : en tp n p = bg tp n p + lnW w
    · exact ⟨h1, h2, by rw [← isW_eq h1 h2]; exact h⟩
    · rw [isW_ln h2] at h; cases h
  · rw [isW_no h1] at h; cases h
theorem eqB_T {tp : Nat → Int32} {b w m j : Nat} (h : tp (b + j) = byt w j) : eqB tp b w (m + 1) j = eqB tp b w m (j + 1) := by
  show (bif decide (tp (b + j) = byt w j) then eqB tp b w m (j + 1) else false) = _
  rw [decide_eq_true h]; rfl
theorem eqB_F {tp : Nat → Int32} {b w m j : Nat} (h : ¬ tp (b + j) = byt w j) : eqB tp b w (m + 1) j = false := by
  show (bif decide (tp (b + j) = byt w j) then eqB tp b w m (j + 1) else false) = _
  rw [decide_eq_false h]; rfl
/-- a word is one of the seven kinds at most -/
theorem isW_1 {tp : Nat → Int32} {n w v p : Nat} (hw : w < 7) (hv : v < 7) (h : isW tp n w p = true) (h2 : isW tp n v p = true) : w = v := by
  obtain ⟨-, a2, a3⟩ := isW_s h
  obtain ⟨-, b2, b3⟩ := isW_s h2
  have e : lnW w = lnW v := by omega
  have f : ∀ u, u < 7 → eqB tp (bg tp n p) u (lnW u) 0 = true → tp (bg tp n p) = byt u 0 := by
    intro u hu q
    obtain ⟨m, hm⟩ : ∃ m, lnW u = m + 1 := ⟨lnW u - 1, by have := lnW_b u (by omega); omega⟩
    rw [hm] at q
    by_cases z : tp (bg tp n p + 0) = byt u 0
    · exact z
    · rw [eqB_F z] at q; cases q
  have g : byt w 0 = byt v 0 := by rw [← f w hw a3, ← f v hv b3]
  have all : ∀ w, w < 7 → ∀ v, v < 7 → lnW w = lnW v → byt w 0 = byt v 0 → w = v := by decide
  exact all w hw v hv e g
set_option maxRecDepth 100000 in
theorem xw_loop {k : Rtn} {X : Option Rz} {tp : Nat → Int32} {n b w x : Nat} {r : Bool} {μ : Mem} (hn : n ≤ 120) (hB : TB tp n μ) (h3 : μ 37 3 = nI b) (hx : x = 61 + w) (hw : w < 13) (hb : b + lnW w ≤ n) (hk : k (some (.int (bI r))) μ = X) :
    ∀ (m j f : Nat) (y : Int32), j + m = lnW w → 60 * m + 60 ≤ f → y = nI j → eqB tp b w m j = r → lockO (oILd 2 29) 0 (runK P_X3_isWord f k) k [some (.ref 37), some (.ref x), some (.int y)] [] μ = X := by
  have hkd : Nat.beq (kd x) 11 = true := by rw [hx]; exact kd11 w hw
  have hl := lnW_b w hw
  intro m
  induction m with
  | zero =>
    intro j f y hj hf hy hr
    obtain ⟨F, rfl⟩ : ∃ F, f = F + 60 := ⟨f - 60, by omega⟩
    subst hy
    refine unO ?_
    refine (@bfT _ _ _ _ _ (hkd)) ?_
    refine x_len hx hw ?_
    refine brF (nI_nlt (by omega) (by omega)) ?_
    rw [← hr] at hk
    exact hk
  | succ m ih =>
    intro j f y hj hf hy hr
    obtain ⟨F, rfl⟩ : ∃ F, f = F + 60 := ⟨f - 60, by omega⟩
    subst hy
    have gi : inB (μ 37 3 + nI j) 120 = true := by rw [h3, nI_add]; exact inB_nI (by omega) (by decide)
    have gx : μ 38 (μ 37 3 + nI j).toNatClampNeg = tp (b + j) := by rw [h3, nI_add, nI_cl (by omega)]; exact hB.2 _ (by omega)
    refine unO ?_
    refine (@bfT _ _ _ _ _ (hkd)) ?_
    refine x_len hx hw ?_
    refine brT (nI_lt (by omega) (by omega)) ?_
    refine (@bfT _ _ _ _ _ (gi)) ?_
    refine (@bfT _ _ _ _ _ (hkd)) ?_
    refine x_chr hx hw (by omega) ?_
    by_cases h : tp (b + j) = byt w j
    · refine brT (gx.trans h) ?_
      exact ih (j + 1) _ _ (by omega) (by omega) (nI_1 j) (by rw [← hr]; exact (eqB_T h).symm)
    · refine brF (fun q => h (gx.symm.trans q)) ?_
      rw [← hr, eqB_F h] at hk
      exact hk
set_option maxRecDepth 100000 in
theorem x_isWord {μ : Mem} {k : Rtn} {X : Option Rz} {tp : Nat → Int32} {n w x p : Nat} (hx : x = 61 + w) (hw : w < 13) (hn : n ≤ 120) (hp : p ≤ n) (hB : TB tp n μ) (hX : TX tp n μ p) (hk : k (some (.int (bI (isW tp n w p)))) μ = X) : S_X3_isWord [.ref 37, .ref x] μ k = X := by
  have hkd : Nat.beq (kd x) 11 = true := by rw [hx]; exact kd11 w hw
  have hl := lnW_b w hw
  have hb := bg_b (tp := tp) hp
  have he := en_b (tp := tp) hp
  refine unl (bfT rfl ?_)
  by_cases h1 : srt tp n p = 1
  · refine brT (hX.1.trans (xk_w.mpr h1)) ?_
    refine (@bfT _ _ _ _ _ (hkd)) ?_
    refine x_len hx hw ?_
    have e : μ 37 4 - μ 37 3 = nI (en tp n p - bg tp n p) := by rw [hX.2.2.1, hX.2.1]; exact pk_sub he.1
    by_cases h2 : en tp n p = bg tp n p + lnW w
    · refine brT (e.trans (by rw [h2]; congr 1; omega)) ?_
      exact xw_loop (b := bg tp n p) hn hB hX.2.1 hx hw (by omega) hk (lnW w) 0 _ _ (by omega) (fu (by omega) rfl) rfl (isW_eq h1 h2).symm
    · refine brF (fun q => h2 ?_) ?_
      · have := (nI_eq (by omega) (by omega)).mp (e.symm.trans q)
        omega
      · rw [isW_ln h2] at hk
        exact hk
  · refine brF (fun q => h1 (xk_w.mp (hX.1.symm.trans q))) ?_
    rw [isW_no h1] at hk
    exact hk
set_option maxRecDepth 100000 in
theorem mw_end {k : Rtn} {X : Option Rz} {w x : Nat} {μ : Mem} (hx : x = 61 + w) (hw : w < 13) (hk : k (some (.int 0)) μ = X) (j f : Nat) (hf : 60 ≤ f) : lockO (oILd 3 33) 0 (runK P_X5_isWord f k) k [some (.ref 49), some (.ref x), some (.int 0), some (.int (nI j))] [] μ = X := by
  have hkd : Nat.beq (kd x) 11 = true := by rw [hx]; exact kd11 w hw
  obtain ⟨F, rfl⟩ : ∃ F, f = F + 60 := ⟨f - 60, by omega⟩
  refine unO ?_
  refine (@bfT _ _ _ _ _ (hkd)) ?_
  refine x_len hx hw ?_
  refine br (fun q => ?_) (fun q => ?_)
  · exact hk
  · exact hk
set_option maxRecDepth 100000 in
theorem mw_loop {k : Rtn} {X : Option Rz} {tp : Nat → Int32} {n b w x : Nat} {r : Bool} {μ : Mem} (hn : n ≤ 120) (hB : MB tp n μ) (h3 : μ 49 9 = nI b) (hx : x = 61 + w) (hw : w < 13) (hb : b + lnW w ≤ n) (hk : k (some (.int (bI r))) μ = X) :
    ∀ (m j f : Nat) (y : Int32), j + m = lnW w → 60 * m + 120 ≤ f → y = nI j → eqB tp b w m j = r → lockO (oILd 3 33) 0 (runK P_X5_isWord f k) k [some (.ref 49), some (.ref x), some (.int 1), some (.int y)] [] μ = X := by
  have hkd : Nat.beq (kd x) 11 = true := by rw [hx]; exact kd11 w hw
  have hl := lnW_b w hw
  intro m
  induction m with
  | zero =>
    intro j f y hj hf hy hr
    obtain ⟨F, rfl⟩ : ∃ F, f = F + 60 := ⟨f - 60, by omega⟩
    subst hy
    refine unO ?_
    refine (@bfT _ _ _ _ _ (hkd)) ?_
    refine x_len hx hw ?_
    refine brF (nI_nlt (by omega) (by omega)) ?_
    rw [← hr] at hk
    exact hk
  | succ m ih =>
    intro j f y hj hf hy hr
    obtain ⟨F, rfl⟩ : ∃ F, f = F + 60 := ⟨f - 60, by omega⟩
    subst hy
    have gi : inB (μ 49 9 + nI j) 120 = true := by rw [h3, nI_add]; exact inB_nI (by omega) (by decide)
    have gx : μ 54 (μ 49 9 + nI j).toNatClampNeg = tp (b + j) := by rw [h3, nI_add, nI_cl (by omega)]; exact hB.2 _ (by omega)
    refine unO ?_
    refine (@bfT _ _ _ _ _ (hkd)) ?_
    refine x_len hx hw ?_
    refine brT (nI_lt (by omega) (by omega)) ?_
    refine (@bfT _ _ _ _ _ (gi)) ?_
    refine (@bfT _ _ _ _ _ (hkd)) ?_
    refine x_chr hx hw (by omega) ?_
    by_cases h : tp (b + j) = byt w j
    · refine brT (gx.trans h) ?_
      exact ih (j + 1) _ _ (by omega) (by omega) (nI_1 j) (by rw [← hr]; exact (eqB_T h).symm)
    · refine brF (fun q => h (gx.symm.trans q)) ?_
      rw [← hr, eqB_F h] at hk
      have := mw_end hx hw hk (j + 1)
      rw [← nI_1] at this
      exact this _ (by omega)
set_option maxRecDepth 100000 in
theorem e_isWord {μ : Mem} {k : Rtn} {X : Option Rz} {tp : Nat → Int32} {n w x p : Nat} (hx : x = 61 + w) (hw : w < 13) (hn : n ≤ 120) (hp : p ≤ n) (hB : MB tp n μ) (hX : TM tp n μ p) (hk : k (some (.int (bI (isW tp n w p)))) μ = X) : S_X5_isWord [.ref 49, .ref x] μ k = X := by
  have hkd : Nat.beq (kd x) 11 = true := by rw [hx]; exact kd11 w hw
  have hl := lnW_b w hw
  have hb := bg_b (tp := tp) hp
  have he := en_b (tp := tp) hp
  refine unl (bfT rfl ?_)
  by_cases h1 : srt tp n p = 1
  · refine brT (hX.2.2.1.trans h1) ?_
    refine (@bfT _ _ _ _ _ (hkd)) ?_
    refine x_len hx hw ?_
    have e : μ 49 10 - μ 49 9 = nI (en tp n p - bg tp n p) := by rw [hX.2.1, hX.1]; exact pk_sub he.1
    by_cases h2 : en tp n p = bg tp n p + lnW w
    · refine brT (e.trans (by rw [h2]; congr 1; omega)) ?_
      exact mw_loop (b := bg tp n p) hn hB hX.1 hx hw (by omega) hk (lnW w) 0 _ _ (by omega) (fu (by omega) rfl) rfl (isW_eq h1 h2).symm
    · refine brF (fun q => h2 ?_) ?_
      · have := (nI_eq (by omega) (by omega)).mp (e.symm.trans q)
        omega
      · rw [isW_ln h2] at hk
        exact mw_end hx hw hk 0 _ (fu (by omega) rfl)
  · refine brF (fun q => h1 (hX.2.2.1.symm.trans q)) ?_
    rw [isW_no h1] at hk
    exact mw_end hx hw hk 0 _ (fu (by omega) rfl)
