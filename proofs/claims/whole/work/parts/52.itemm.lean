/-! texts: items, the reference's reading -/
section MM
variable {tp : Nat → Int32} {n : Nat}
set_option maxRecDepth 100000 in
theorem e_must1 {μ : Mem} {k : Rtn} {X : Option Rz} {p : Nat} (hn : n ≤ 120) (hV : ∀ j, j < n → VB (tp j) 255) (hp : p ≤ n) (hB : MB tp n μ) (hM : TM tp n μ p) (h13 : μ 49 13 = 0) (hk : ∀ ν, FG 49 [9, 10, 11, 12, 13] μ ν → TM tp n ν (en tp n p) → ν 49 13 = 0 → k none ν = X) : S_X5_must [.ref 49, .int 1] μ k = X := by
  refine unl (bfT rfl ?_)
  refine brT h13 ?_
  refine e_token (tp := tp) (n := n) (p := en tp n p) hn hV (en_b hp).2 (hB.fg (L := [13]) (by decide) (FG.rf.up (by decide))) hM.2.1 (fun ν hF hT => ?_)
  refine hk ν ((FG.rf.up (by decide)).tr (hF.mo (by decide))) hT ?_
  rw [hF.2 13 (by decide)]
  rfl
set_option maxRecDepth 100000 in
theorem e_must0 {μ : Mem} {k : Rtn} {X : Option Rz} (h13 : μ 49 13 = 0) (hk : ∀ ν, FG 49 [13] μ ν → ν 49 13 = 1 → k none ν = X) : S_X5_must [.ref 49, .int 0] μ k = X := by
  refine unl (bfT rfl ?_)
  refine brT h13 ?_
  exact hk _ (FG.rf.up (by decide)) rfl
set_option maxRecDepth 100000 in
theorem e_mustW {μ : Mem} {k : Rtn} {X : Option Rz} {b : Int32} (h13 : μ 49 13 = 1) (hk : ∀ ν, FG 49 [13] μ ν → ν 49 13 = 1 → k none ν = X) : S_X5_must [.ref 49, .int b] μ k = X := by
  have h0 : ¬ μ 49 13 = 0 := by rw [h13]; decide
  refine unl (bfT rfl ?_)
  refine brF h0 ?_
  exact hk _ (FG.rf.up (by decide)) rfl
set_option maxRecDepth 100000 in
theorem e_num1 {μ : Mem} {k : Rtn} {X : Option Rz} {p : Nat} {lo hi : Int32} (hn : n ≤ 120) (hV : ∀ j, j < n → VB (tp j) 255) (hp : p ≤ n) (hB : MB tp n μ) (hM : TM tp n μ p) (h13 : μ 49 13 = 0) (hN : pNum tp n lo hi p = true) (hk : ∀ ν, FG 49 [9, 10, 11, 12, 13] μ ν → TM tp n ν (en tp n p) → ν 49 13 = 0 → k (some (.int (val tp n p))) ν = X) : S_X5_number [.ref 49, .int lo, .int hi] μ k = X := by
  obtain ⟨a, b, c⟩ := pNum_T hN
  rw [← hM.2.2.2] at b c
  refine unl (bfT rfl ?_)
  refine brT (hM.2.2.1.trans a) ?_
  refine brF b ?_
  refine brF c ?_
  refine e_must1 hn hV hp hB hM h13 (fun ν hF hT h => ?_)
  have := hk ν hF hT h
  rw [← hM.2.2.2] at this
  exact this
set_option maxRecDepth 100000 in
theorem e_num0 {μ : Mem} {k : Rtn} {X : Option Rz} {p : Nat} {lo hi : Int32} (hM : TM tp n μ p) (h13 : μ 49 13 = 0) (hN : pNum tp n lo hi p = false) (hk : ∀ v ν, FG 49 [13] μ ν → ν 49 13 = 1 → k (some (.int v)) ν = X) : S_X5_number [.ref 49, .int lo, .int hi] μ k = X := by
  refine unl (bfT rfl ?_)
  rcases pNum_F hN with a | ⟨a, b⟩ | ⟨a, b, c⟩
  · refine brF (fun q => a (hM.2.2.1.symm.trans q)) ?_
    exact e_must0 h13 (fun ν hF h => hk _ ν hF h)
  · rw [← hM.2.2.2] at b
    refine brT (hM.2.2.1.trans a) ?_
    refine brT b ?_
    exact e_must0 h13 (fun ν hF h => hk _ ν hF h)
  · rw [← hM.2.2.2] at b c
    refine brT (hM.2.2.1.trans a) ?_
    refine brF b ?_
    refine brT c ?_
    exact e_must0 h13 (fun ν hF h => hk _ ν hF h)
set_option maxRecDepth 100000 in
theorem e_numW {μ : Mem} {k : Rtn} {X : Option Rz} {lo hi : Int32} (h13 : μ 49 13 = 1) (hk : ∀ v ν, FG 49 [13] μ ν → ν 49 13 = 1 → k (some (.int v)) ν = X) : S_X5_number [.ref 49, .int lo, .int hi] μ k = X := by
  refine unl (bfT rfl ?_)
  refine br (fun q => ?_) (fun q => ?_)
  · refine br (fun q => ?_) (fun q => ?_)
    · exact e_mustW h13 (fun ν hF h => hk _ ν hF h)
    · refine br (fun q => ?_) (fun q => ?_)
      · exact e_mustW h13 (fun ν hF h => hk _ ν hF h)
      · exact e_mustW h13 (fun ν hF h => hk _ ν hF h)
  · exact e_mustW h13 (fun ν hF h => hk _ ν hF h)
set_option maxRecDepth 100000 in
theorem e_tkT {μ : Mem} {k : Rtn} {X : Option Rz} {p w x : Nat} (hx : x = 61 + w) (hw : w < 13) (hn : n ≤ 120) (hV : ∀ j, j < n → VB (tp j) 255) (hp : p ≤ n) (hB : MB tp n μ) (hM : TM tp n μ p) (h13 : μ 49 13 = 0) (hN : isW tp n w p = true) (hk : ∀ ν, FG 49 [9, 10, 11, 12, 13] μ ν → TM tp n ν (en tp n p) → ν 49 13 = 0 → k (some (.int 1)) ν = X) : S_X5_takesWord [.ref 49, .ref x] μ k = X := by
  refine unl (bfT rfl ?_)
  refine brT h13 ?_
  refine e_isWord (tp := tp) (n := n) (p := p) hx hw hn hp hB hM ?_
  rw [hN]
  refine e_must1 hn hV hp hB hM h13 (fun ν hF hT h => ?_)
  exact hk ν hF hT h
set_option maxRecDepth 100000 in
theorem e_tkF {μ : Mem} {k : Rtn} {X : Option Rz} {p w x : Nat} (hx : x = 61 + w) (hw : w < 13) (hn : n ≤ 120) (hp : p ≤ n) (hB : MB tp n μ) (hM : TM tp n μ p) (h13 : μ 49 13 = 0) (hN : isW tp n w p = false) (hk : k (some (.int 0)) μ = X) : S_X5_takesWord [.ref 49, .ref x] μ k = X := by
  refine unl (bfT rfl ?_)
  refine brT h13 ?_
  refine e_isWord (tp := tp) (n := n) (p := p) hx hw hn hp hB hM ?_
  rw [hN]
  exact hk
set_option maxRecDepth 100000 in
theorem e_tkW {μ : Mem} {k : Rtn} {X : Option Rz} {x : Nat} (h13 : μ 49 13 = 1) (hk : k (some (.int 0)) μ = X) : S_X5_takesWord [.ref 49, .ref x] μ k = X := by
  have h0 : ¬ μ 49 13 = 0 := by rw [h13]; decide
  refine unl (bfT rfl ?_)
  refine brF h0 ?_
  exact hk
set_option maxRecDepth 100000 in
theorem e_add {μ : Mem} {k : Rtn} {X : Option Rz} {j : Nat} {w a b c : Int32} (hj : j < 120) (h16 : μ 49 16 = nI j) (hk : ∀ ν, ν = up2 (up1 μ 55 (u4 (μ 55) j (w, a, b, c))) 49 16 (nI (j + 1)) → k none ν = X) : S_X5_addItem [.ref 49, .int w, .int a, .int b, .int c] μ k = X := by
  have e0 : (4 : Int32) * μ 49 16 = nI (4 * j) := by rw [h16, show (4 : Int32) = nI 4 from rfl, pk_mul]
  have e1 : (4 : Int32) * μ 49 16 + 1 = nI (4 * j + 1) := by rw [e0, nI_1]
  have e2 : (4 : Int32) * μ 49 16 + 2 = nI (4 * j + 2) := by rw [e0, show (2 : Int32) = nI 2 from rfl, nI_add]
  have e3 : (4 : Int32) * μ 49 16 + 3 = nI (4 * j + 3) := by rw [e0, show (3 : Int32) = nI 3 from rfl, nI_add]
  have g0 : inB ((4 : Int32) * μ 49 16) 480 = true := by rw [e0]; exact inB_nI (by omega) (by decide)
  have g1 : inB ((4 : Int32) * μ 49 16 + 1) 480 = true := by rw [e1]; exact inB_nI (by omega) (by decide)
  have g2 : inB ((4 : Int32) * μ 49 16 + 2) 480 = true := by rw [e2]; exact inB_nI (by omega) (by decide)
  have g3 : inB ((4 : Int32) * μ 49 16 + 3) 480 = true := by rw [e3]; exact inB_nI (by omega) (by decide)
  refine unl (bfT rfl ?_)
  refine (@bfT _ _ _ _ _ (g0)) ?_
  refine (@bfT _ _ _ _ _ (g1)) ?_
  refine (@bfT _ _ _ _ _ (g2)) ?_
  refine (@bfT _ _ _ _ _ (g3)) ?_
  refine hk _ ?_
  show up2 (up2 (up2 (up2 (up2 μ 55 ((4 : Int32) * μ 49 16).toNatClampNeg w) 55 ((4 : Int32) * μ 49 16 + 1).toNatClampNeg a) 55 ((4 : Int32) * μ 49 16 + 2).toNatClampNeg b) 55 ((4 : Int32) * μ 49 16 + 3).toNatClampNeg c) 49 16 (μ 49 16 + 1) = _
  rw [e1, e2, e3, e0, nI_cl (by omega), nI_cl (by omega), nI_cl (by omega), nI_cl (by omega), h16, nI_1]
  simp only [up2, up1_at, up1_same]
  rfl
end MM
def FB (μ ν : Mem) : Prop := (∀ i, ¬ i = 49 → ¬ i = 55 → ν i = μ i) ∧ ν 49 3 = μ 49 3 ∧ ν 49 8 = μ 49 8
theorem FB.rf {μ : Mem} : FB μ μ := ⟨fun _ _ _ => rfl, rfl, rfl⟩
theorem FB.tr {μ μ1 μ2 : Mem} (h1 : FB μ μ1) (h2 : FB μ1 μ2) : FB μ μ2 := ⟨fun i a b => (h2.1 i a b).trans (h1.1 i a b), h2.2.1.trans h1.2.1, h2.2.2.trans h1.2.2⟩
theorem FB.fg {μ ν : Mem} {L : List Nat} (h : FG 49 L μ ν) (h3 : ¬ 3 ∈ L) (h8 : ¬ 8 ∈ L) : FB μ ν := ⟨fun i a _ => h.1 i a, h.2 3 h3, h.2 8 h8⟩
theorem MB.fb {tp : Nat → Int32} {n : Nat} {μ ν : Mem} (h : MB tp n μ) (hF : FB μ ν) : MB tp n ν := by
  refine ⟨hF.2.2.trans h.1, fun j hj => ?_⟩
  rw [hF.1 54 (by decide) (by decide)]
  exact h.2 j hj
def WM (f : Nat) (μ ν : Mem) : Prop := FB μ ν ∧ ν 49 13 = 1 ∧ ν 49 9 = nI f
def OM (tp : Nat → Int32) (n j : Nat) (c : Int32) (q : Nat × It4) (μ ν : Mem) : Prop := FB μ ν ∧ TM tp n ν q.1 ∧ ν 49 13 = 0 ∧ ν 49 16 = nI (j + 1) ∧ ν 55 = u4 (μ 55) j q.2 ∧ ν 49 17 = (bif decide (q.2.1 < 10) then c + 1 else c)
def KM (tp : Nat → Int32) (n j : Nat) (c : Int32) (o : Nat ⊕ (Nat × It4)) (μ : Mem) (k : Rtn) (X : Option Rz) : Prop := match o with
  | .inl f => ∀ ν, WM f μ ν → k none ν = X
  | .inr q => ∀ ν, OM tp n j c q μ ν → k none ν = X
theorem KM_fg {tp : Nat → Int32} {n j : Nat} {c : Int32} {o : Nat ⊕ (Nat × It4)} {μ μ1 : Mem} {k : Rtn} {X : Option Rz} {L : List Nat} (h : FG 49 L μ μ1) (h3 : ¬ 3 ∈ L) (h8 : ¬ 8 ∈ L) (hk : KM tp n j c o μ k X) : KM tp n j c o μ1 k X := by
  have hF := FB.fg h h3 h8
  have h55 : μ1 55 = μ 55 := h.1 55 (by decide)
  cases o with
  | inl f => exact fun ν w => hk ν ⟨hF.tr w.1, w.2⟩
  | inr q => exact fun ν w => hk ν ⟨hF.tr w.1, w.2.1, w.2.2.1, w.2.2.2.1, by rw [← h55]; exact w.2.2.2.2.1, w.2.2.2.2.2⟩
theorem e_addW {μ : Mem} {k : Rtn} {X : Option Rz} {j f : Nat} {w a b c : Int32} (hj : j < 120) (h16 : μ 49 16 = nI j) (h13 : μ 49 13 = 1) (h9 : μ 49 9 = nI f) (hk : ∀ ν, WM f μ ν → k none ν = X) : S_X5_addItem [.ref 49, .int w, .int a, .int b, .int c] μ k = X := by
  refine e_add hj h16 (fun ν e => ?_)
  subst e
  exact hk _ ⟨⟨fun i p q => (up2_ne _ _ p).trans (up1_ne _ _ q), rfl, rfl⟩, h13, h9⟩
theorem add_OM {tp : Nat → Int32} {n j p : Nat} {c : Int32} {it : It4} {μ ν : Mem} (hc : μ 49 17 = c) (hM : TM tp n μ p) (h13 : μ 49 13 = 0) (hi : ¬ it.1 < 10) (e : ν = up2 (up1 μ 55 (u4 (μ 55) j it)) 49 16 (nI (j + 1))) : OM tp n j c (p, it) μ ν := by
  subst e
  refine ⟨⟨fun i p q => (up2_ne _ _ p).trans (up1_ne _ _ q), rfl, rfl⟩, hM, h13, rfl, ?_, ?_⟩
  · exact (up2_ne _ _ (by decide)).trans (up1_at _ _ _)
  · rw [decide_eq_false hi]
    exact hc
section MI
variable {tp : Nat → Int32} {n : Nat}
set_option maxRecDepth 100000 in
theorem e_rLst {μ : Mem} {k : Rtn} {X : Option Rz} {p j : Nat} {c : Int32} (hn : n ≤ 120) (hV : ∀ j, j < n → VB (tp j) 255) (hp : p ≤ n) (hB : MB tp n μ) (hM : TM tp n μ p) (h13 : μ 49 13 = 0) (hj : j < 120) (h16 : μ 49 16 = nI j) (h17 : μ 49 17 = c) (hk : KM tp n j c (pLst tp n p) μ k X) : S_X5_readDispute [.ref 49] μ k = X := by
  have p1 := (en_b (tp := tp) hp).2
  have p2 := (en_b (tp := tp) p1).2
  unfold pLst at hk
  refine unl (bfT rfl ?_)
  cases h1 : pNum tp n 0 5 p with
  | false =>
    rw [h1] at hk
    refine e_num0 hM h13 h1 (fun v1 ν1 f1 w1 => ?_)
    refine e_numW w1 (fun v2 ν2 f2 w2 => ?_)
    refine e_numW w2 (fun v3 ν3 f3 w3 => ?_)
    have F := (f1.tr f2).tr f3
    exact e_addW hj (by rw [F.2 16 (by decide)]; exact h16) w3 (by rw [F.2 9 (by decide)]; exact hM.1) (fun ν4 w4 => KM_fg F (by decide) (by decide) hk ν4 w4)
  | true =>
    rw [h1] at hk
    refine e_num1 hn hV hp hB hM h13 h1 (fun ν1 f1 m1 z1 => ?_)
    have b1 := hB.fg (by decide) f1
    cases h2 : pNum tp n 0 7 (en tp n p) with
    | false =>
      rw [h2] at hk
      refine e_num0 m1 z1 h2 (fun v2 ν2 f2 w2 => ?_)
      refine e_numW w2 (fun v3 ν3 f3 w3 => ?_)
      have F := f2.tr f3
      have F9 := f1.tr (F.mo (by decide))
      exact e_addW hj (by rw [F9.2 16 (by decide)]; exact h16) w3 (by rw [F.2 9 (by decide)]; exact m1.1) (fun ν4 w4 => KM_fg F9 (by decide) (by decide) hk ν4 w4)
    | true =>
      rw [h2] at hk
      refine e_num1 hn hV p1 b1 m1 z1 h2 (fun ν2 f2 m2 z2 => ?_)
      have b2 := b1.fg (by decide) f2
      have f12 := f1.tr f2
      cases h3 : pNum tp n 0 7 (en tp n (en tp n p)) with
      | false =>
        rw [h3] at hk
        refine e_num0 m2 z2 h3 (fun v3 ν3 f3 w3 => ?_)
        have F9 := f12.tr (f3.mo (by decide))
        exact e_addW hj (by rw [F9.2 16 (by decide)]; exact h16) w3 (by rw [f3.2 9 (by decide)]; exact m2.1) (fun ν4 w4 => KM_fg F9 (by decide) (by decide) hk ν4 w4)
      | true =>
        rw [h3] at hk
        refine e_num1 hn hV p2 b2 m2 z2 h3 (fun ν3 f3 m3 z3 => ?_)
        have F9 := f12.tr f3
        exact e_add hj (by rw [F9.2 16 (by decide)]; exact h16) (fun ν4 e4 => KM_fg F9 (by decide) (by decide) hk ν4 (add_OM (by rw [F9.2 17 (by decide)]; exact h17) m3 z3 (show ¬ (10 : Int32) < 10 by decide) e4))
set_option maxRecDepth 100000 in
theorem j48 {k : Rtn} {X : Option Rz} {F : Nat} {ls : LSt} {st : List Value} {μ : Mem} (h : runK P_X5_readDisputant F k 63 ls (.int 20 :: st) μ = X) : runK P_X5_readDisputant (F + 2) k 48 ls (.int 0 :: st) μ = X := h
set_option maxRecDepth 100000 in
theorem j58 {k : Rtn} {X : Option Rz} {F : Nat} {ls : LSt} {st : List Value} {μ : Mem} (h : runK P_X5_readDisputant F k 63 ls st μ = X) : runK P_X5_readDisputant (F + 1) k 58 ls st μ = X := h
set_option maxRecDepth 100000 in
theorem j25 {k : Rtn} {X : Option Rz} {F : Nat} {ls : LSt} {st : List Value} {μ : Mem} (h : runK P_X5_readDisputant F k 40 ls (.int 50 :: st) μ = X) : runK P_X5_readDisputant (F + 2) k 25 ls (.int 0 :: st) μ = X := h
set_option maxRecDepth 100000 in
theorem j35 {k : Rtn} {X : Option Rz} {F : Nat} {ls : LSt} {st : List Value} {μ : Mem} (h : runK P_X5_readDisputant F k 40 ls st μ = X) : runK P_X5_readDisputant (F + 1) k 35 ls st μ = X := h
set_option maxRecDepth 100000 in
theorem rd3W {k : Rtn} {X : Option Rz} {μ : Mem} {j q f : Nat} {kind cause temper : Int32} (hj : j < 120) (h13 : μ 49 13 = 1) (h16 : μ 49 16 = nI j) (h9 : μ 49 9 = nI q) (hk : ∀ ν, WM q μ ν → k none ν = X) (hf : 19 ≤ f) : runK P_X5_readDisputant f k 63 [some (.ref 49), some (.int kind), some (.int cause), none] [.int temper] μ = X := by
  obtain ⟨F, rfl⟩ : ∃ F, f = F + 19 := ⟨f - 19, by omega⟩
  refine e_tkW h13 ?_
  refine e_addW hj h16 h13 h9 (fun ν w => ?_)
  refine hk (up2 ν 49 17 (ν 49 17 + 1)) ⟨⟨fun i a b => (up2_ne _ _ a).trans (w.1.1 i a b), w.1.2.1, w.1.2.2⟩, w.2.1, w.2.2⟩
set_option maxRecDepth 100000 in
theorem rd2W {k : Rtn} {X : Option Rz} {μ : Mem} {j q f : Nat} {kind cause : Int32} (hj : j < 120) (h13 : μ 49 13 = 1) (h16 : μ 49 16 = nI j) (h9 : μ 49 9 = nI q) (hk : ∀ ν, WM q μ ν → k none ν = X) (hf : 29 ≤ f) : runK P_X5_readDisputant f k 40 [some (.ref 49), some (.int kind), none, none] [.int cause] μ = X := by
  obtain ⟨F, rfl⟩ : ∃ F, f = F + 29 := ⟨f - 29, by omega⟩
  refine e_tkW h13 ?_
  refine j48 ?_
  exact rd3W hj h13 h16 h9 hk (by omega)
theorem add_OK {tp : Nat → Int32} {n j p : Nat} {c : Int32} {it : It4} {μ ν : Mem} (hc : μ 49 17 = c) (hM : TM tp n μ p) (h13 : μ 49 13 = 0) (hi : it.1 < 10) (e : ν = up2 (up1 μ 55 (u4 (μ 55) j it)) 49 16 (nI (j + 1))) : OM tp n j c (p, it) μ (up2 ν 49 17 (ν 49 17 + 1)) := by
  subst e
  refine ⟨⟨fun i p q => ((up2_ne _ _ p).trans (up2_ne _ _ p)).trans (up1_ne _ _ q), rfl, rfl⟩, hM, h13, rfl, ?_, ?_⟩
  · exact ((up2_ne _ _ (by decide)).trans (up2_ne _ _ (by decide))).trans (up1_at _ _ _)
  · rw [decide_eq_true hi]
    show μ 49 17 + 1 = c + 1
    rw [hc]
set_option maxRecDepth 100000 in
theorem rd3 {k : Rtn} {X : Option Rz} {μ : Mem} {p j f : Nat} {kind cause temper c : Int32} (hn : n ≤ 120) (hV : ∀ j, j < n → VB (tp j) 255) (hp : p ≤ n) (hB : MB tp n μ) (hM : TM tp n μ p) (h13 : μ 49 13 = 0) (hj : j < 120) (h16 : μ 49 16 = nI j) (h17 : μ 49 17 = c) (hkd : kind < 10) (hk : KM tp n j c (.inr (pD3 tp n kind cause temper p)) μ k X) (hf : 19 ≤ f) : runK P_X5_readDisputant f k 63 [some (.ref 49), some (.int kind), some (.int cause), none] [.int temper] μ = X := by
  obtain ⟨F, rfl⟩ : ∃ F, f = F + 19 := ⟨f - 19, by omega⟩
  unfold pD3 at hk
  cases hw : isW tp n 12 p with
  | false =>
    rw [hw] at hk
    refine e_tkF (w := 12) rfl (by decide) hn hp hB hM h13 hw ?_
    refine e_add hj h16 (fun ν e => ?_)
    exact hk _ (add_OK h17 hM h13 hkd e)
  | true =>
    rw [hw] at hk
    refine e_tkT (w := 12) rfl (by decide) hn hV hp hB hM h13 hw (fun ν1 f1 m1 z1 => ?_)
    refine e_add hj (by rw [f1.2 16 (by decide)]; exact h16) (fun ν e => ?_)
    exact KM_fg f1 (by decide) (by decide) hk _ (add_OK (by rw [f1.2 17 (by decide)]; exact h17) m1 z1 hkd e)
set_option maxRecDepth 100000 in
theorem rd2 {k : Rtn} {X : Option Rz} {μ : Mem} {p j f : Nat} {kind cause c : Int32} (hn : n ≤ 120) (hV : ∀ j, j < n → VB (tp j) 255) (hp : p ≤ n) (hB : MB tp n μ) (hM : TM tp n μ p) (h13 : μ 49 13 = 0) (hj : j < 120) (h16 : μ 49 16 = nI j) (h17 : μ 49 17 = c) (hkd : kind < 10) (hk : KM tp n j c (pD2 tp n kind cause p) μ k X) (hf : 29 ≤ f) : runK P_X5_readDisputant f k 40 [some (.ref 49), some (.int kind), none, none] [.int cause] μ = X := by
  obtain ⟨F, rfl⟩ : ∃ F, f = F + 29 := ⟨f - 29, by omega⟩
  have p1 := (en_b (tp := tp) hp).2
  unfold pD2 pOpt at hk
  cases hw : isW tp n 11 p with
  | false =>
    rw [hw] at hk
    refine e_tkF (w := 11) rfl (by decide) hn hp hB hM h13 hw ?_
    refine j48 ?_
    exact rd3 hn hV hp hB hM h13 hj h16 h17 hkd hk (by omega)
  | true =>
    rw [hw] at hk
    refine e_tkT (w := 11) rfl (by decide) hn hV hp hB hM h13 hw (fun ν1 f1 m1 z1 => ?_)
    have b1 := hB.fg (by decide) f1
    cases hN : pNum tp n 0 99 (en tp n p) with
    | false =>
      rw [hN] at hk
      refine e_num0 m1 z1 hN (fun v2 ν2 f2 w2 => ?_)
      have F9 := f1.tr (f2.mo (by decide))
      refine j58 ?_
      exact rd3W hj w2 (by rw [F9.2 16 (by decide)]; exact h16) (by rw [f2.2 9 (by decide)]; exact m1.1) (fun ν w => KM_fg F9 (by decide) (by decide) hk ν w) (by omega)
    | true =>
      rw [hN] at hk
      refine e_num1 hn hV p1 b1 m1 z1 hN (fun ν2 f2 m2 z2 => ?_)
      have F9 := f1.tr f2
      refine j58 ?_
      exact rd3 hn hV (en_b p1).2 (b1.fg (by decide) f2) m2 z2 hj (by rw [F9.2 16 (by decide)]; exact h16) (by rw [F9.2 17 (by decide)]; exact h17) hkd (KM_fg F9 (by decide) (by decide) hk) (by omega)
set_option maxRecDepth 100000 in
theorem e_rDisp {μ : Mem} {k : Rtn} {X : Option Rz} {p j : Nat} {kind c : Int32} (hn : n ≤ 120) (hV : ∀ j, j < n → VB (tp j) 255) (hp : p ≤ n) (hB : MB tp n μ) (hM : TM tp n μ p) (h13 : μ 49 13 = 0) (hj : j < 120) (h16 : μ 49 16 = nI j) (h17 : μ 49 17 = c) (hkd : kind < 10) (hk : KM tp n j c (bif decide (c < 8) then pD1 tp n kind (en tp n p) else .inl (bg tp n p)) μ k X) : S_X5_readDisputant [.ref 49, .int kind] μ k = X := by
  have p1 := (en_b (tp := tp) hp).2
  have p2 := (en_b (tp := tp) p1).2
  refine unl (bfT rfl ?_)
  by_cases hc : c < 8
  · rw [decide_eq_true hc] at hk
    refine brT (by rw [h17]; exact hc) ?_
    refine e_must1 hn hV hp hB hM h13 (fun ν1 f1 m1 z1 => ?_)
    have b1 := hB.fg (by decide) f1
    have hk1 := KM_fg f1 (by decide) (by decide) hk
    have g16 : ν1 49 16 = nI j := by rw [f1.2 16 (by decide)]; exact h16
    have g17 : ν1 49 17 = c := by rw [f1.2 17 (by decide)]; exact h17
    clear hk
    change KM tp n j c (pD1 tp n kind (en tp n p)) ν1 k X at hk1
    unfold pD1 pOpt at hk1
    cases hw : isW tp n 10 (en tp n p) with
    | false =>
      rw [hw] at hk1
      refine e_tkF (w := 10) rfl (by decide) hn p1 b1 m1 z1 hw ?_
      refine j25 ?_
      exact rd2 hn hV p1 b1 m1 z1 hj g16 g17 hkd hk1 (Nat.le_of_ble_eq_true rfl)
    | true =>
      rw [hw] at hk1
      refine e_tkT (w := 10) rfl (by decide) hn hV p1 b1 m1 z1 hw (fun ν2 f2 m2 z2 => ?_)
      have b2 := b1.fg (by decide) f2
      cases hN : pNum tp n 0 99 (en tp n (en tp n p)) with
      | false =>
        rw [hN] at hk1
        refine e_num0 m2 z2 hN (fun v3 ν3 f3 w3 => ?_)
        have F9 := f2.tr (f3.mo (by decide))
        refine j35 ?_
        exact rd2W hj w3 (by rw [F9.2 16 (by decide)]; exact g16) (by rw [f3.2 9 (by decide)]; exact m2.1) (fun ν w => KM_fg F9 (by decide) (by decide) hk1 ν w) (Nat.le_of_ble_eq_true rfl)
      | true =>
        rw [hN] at hk1
        refine e_num1 hn hV p2 b2 m2 z2 hN (fun ν3 f3 m3 z3 => ?_)
        have F9 := f2.tr f3
        refine j35 ?_
        exact rd2 hn hV (en_b p2).2 (b2.fg (by decide) f3) m3 z3 hj (by rw [F9.2 16 (by decide)]; exact g16) (by rw [F9.2 17 (by decide)]; exact g17) hkd (KM_fg F9 (by decide) (by decide) hk1) (Nat.le_of_ble_eq_true rfl)
  · rw [decide_eq_false hc] at hk
    refine brF (by rw [h17]; exact hc) ?_
    refine e_must0 h13 (fun ν1 f1 w1 => ?_)
    refine e_tkW w1 ?_
    refine j25 ?_
    exact rd2W hj w1 (by rw [f1.2 16 (by decide)]; exact h16) (by rw [f1.2 9 (by decide)]; exact hM.1) (fun ν w => KM_fg f1 (by decide) (by decide) hk ν w) (Nat.le_of_ble_eq_true rfl)
end MI
