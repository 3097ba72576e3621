/-! texts: items, as functions of the tape -/
abbrev It4 : Type := Int32 × Int32 × Int32 × Int32
def pNum (tp : Nat → Int32) (n : Nat) (lo hi : Int32) (p : Nat) : Bool := bif decide (srt tp n p = 2) then (bif decide (val tp n p < lo) then false else bif decide (hi < val tp n p) then false else true) else false
theorem pNum_T {tp : Nat → Int32} {n p : Nat} {lo hi : Int32} (h : pNum tp n lo hi p = true) : srt tp n p = 2 ∧ ¬ val tp n p < lo ∧ ¬ hi < val tp n p := by
  unfold pNum at h
  by_cases a : srt tp n p = 2
  · by_cases b : val tp n p < lo
    · rw [decide_eq_true a, decide_eq_true b] at h; cases h
    · by_cases c : hi < val tp n p
      · rw [decide_eq_true a, decide_eq_false b, decide_eq_true c] at h; cases h
      · exact ⟨a, b, c⟩
  · rw [decide_eq_false a] at h; cases h
theorem pNum_F {tp : Nat → Int32} {n p : Nat} {lo hi : Int32} (h : pNum tp n lo hi p = false) : ¬ srt tp n p = 2 ∨ (srt tp n p = 2 ∧ val tp n p < lo) ∨ (srt tp n p = 2 ∧ ¬ val tp n p < lo ∧ hi < val tp n p) := by
  unfold pNum at h
  by_cases a : srt tp n p = 2
  · by_cases b : val tp n p < lo
    · exact Or.inr (Or.inl ⟨a, b⟩)
    · by_cases c : hi < val tp n p
      · exact Or.inr (Or.inr ⟨a, b, c⟩)
      · rw [decide_eq_true a, decide_eq_false b, decide_eq_false c] at h; cases h
  · exact Or.inl a
theorem pNum_VB {tp : Nat → Int32} {n p m : Nat} (hm : m < 100000) (h : pNum tp n 0 (nI m) p = true) : VB (val tp n p) m := by
  obtain ⟨-, h1, h2⟩ := pNum_T h
  exact nlt_VB hm h1 h2
/-- a word with a number, or what is so without it -/
def pOpt (tp : Nat → Int32) (n w : Nat) (d : Int32) (p : Nat) : Nat ⊕ (Nat × Int32) := bif isW tp n w p then (bif pNum tp n 0 99 (en tp n p) then .inr (en tp n (en tp n p), val tp n (en tp n p)) else .inl (bg tp n (en tp n p))) else .inr (p, d)
def pD3 (tp : Nat → Int32) (n : Nat) (kind cause temper : Int32) (p : Nat) : Nat × It4 := bif isW tp n 12 p then (en tp n p, kind, cause, temper, 1) else (p, kind, cause, temper, 0)
def pD2 (tp : Nat → Int32) (n : Nat) (kind cause : Int32) (p : Nat) : Nat ⊕ (Nat × It4) := match pOpt tp n 11 20 p with
  | .inl f => .inl f
  | .inr q => .inr (pD3 tp n kind cause q.2 q.1)
def pD1 (tp : Nat → Int32) (n : Nat) (kind : Int32) (p : Nat) : Nat ⊕ (Nat × It4) := match pOpt tp n 10 50 p with
  | .inl f => .inl f
  | .inr q => pD2 tp n kind q.2 q.1
def pLst (tp : Nat → Int32) (n p : Nat) : Nat ⊕ (Nat × It4) := bif pNum tp n 0 5 p then (bif pNum tp n 0 7 (en tp n p) then (bif pNum tp n 0 7 (en tp n (en tp n p)) then .inr (en tp n (en tp n (en tp n p)), 10, val tp n p, 10 * val tp n (en tp n p) + val tp n (en tp n (en tp n p)), 0) else .inl (bg tp n (en tp n (en tp n p)))) else .inl (bg tp n (en tp n p))) else .inl (bg tp n p)
def pOne (tp : Nat → Int32) (n : Nat) (w lo hi : Int32) (p : Nat) : Nat ⊕ (Nat × It4) := bif pNum tp n lo hi p then .inr (en tp n p, w, val tp n p, 0, 0) else .inl (bg tp n p)
def kdW (tp : Nat → Int32) (n p : Nat) : Int32 := bif isW tp n 0 p then 0 else bif isW tp n 1 p then 1 else bif isW tp n 2 p then 2 else bif isW tp n 3 p then 3 else bif isW tp n 4 p then 4 else bif isW tp n 5 p then 5 else bif isW tp n 6 p then 6 else -1
def pItem (tp : Nat → Int32) (n p : Nat) (c : Int32) : Nat ⊕ (Nat × It4) := bif decide (kdW tp n p < 0) then (bif isW tp n 7 p then pLst tp n (en tp n p) else bif isW tp n 8 p then pOne tp n 11 1 60 (en tp n p) else bif isW tp n 9 p then pOne tp n 12 0 9 (en tp n p) else .inl (bg tp n p)) else bif decide (c < 8) then pD1 tp n (kdW tp n p) (en tp n p) else .inl (bg tp n p)
theorem kdW_c (tp : Nat → Int32) (n p : Nat) : (kdW tp n p = -1 ∧ ∀ w, w < 7 → isW tp n w p = false) ∨ ∃ w, w < 7 ∧ isW tp n w p = true ∧ kdW tp n p = nI w := by
  unfold kdW
  cases h0 : isW tp n 0 p with
  | true => exact Or.inr ⟨0, by decide, h0, rfl⟩
  | false =>
  cases h1 : isW tp n 1 p with
  | true => exact Or.inr ⟨1, by decide, h1, rfl⟩
  | false =>
  cases h2 : isW tp n 2 p with
  | true => exact Or.inr ⟨2, by decide, h2, rfl⟩
  | false =>
  cases h3 : isW tp n 3 p with
  | true => exact Or.inr ⟨3, by decide, h3, rfl⟩
  | false =>
  cases h4 : isW tp n 4 p with
  | true => exact Or.inr ⟨4, by decide, h4, rfl⟩
  | false =>
  cases h5 : isW tp n 5 p with
  | true => exact Or.inr ⟨5, by decide, h5, rfl⟩
  | false =>
  cases h6 : isW tp n 6 p with
  | true => exact Or.inr ⟨6, by decide, h6, rfl⟩
  | false =>
    refine Or.inl ⟨rfl, fun w hw => ?_⟩
    rcases (by omega : w = 0 ∨ w = 1 ∨ w = 2 ∨ w = 3 ∨ w = 4 ∨ w = 5 ∨ w = 6) with rfl | rfl | rfl | rfl | rfl | rfl | rfl
    · exact h0
    · exact h1
    · exact h2
    · exact h3
    · exact h4
    · exact h5
    · exact h6
/-- what an item tells of a row -/
def mR (r : Nat → Int32) (m : Nat) (kind cause temper s : Int32) : Nat → Int32 := upf (upf (cmR r m kind cause) (22 + 6 * m + 2) temper) (22 + 6 * m + 5) s
def tellR (it : It4) (r : Nat → Int32) : Nat → Int32 := bif decide (it.1 = 10) then upf r (6 + it.2.1.toNatClampNeg) it.2.2.1 else bif decide (it.1 = 11) then upf r 3 it.2.1 else bif decide (it.1 = 12) then upf r 4 it.2.1 else mR r (r 1).toNatClampNeg it.1 it.2.1 it.2.2.1 it.2.2.2
def itOk (it : It4) (c : Int32) : Prop := (it.1 = 10 ∧ VB it.2.1 5) ∨ it.1 = 11 ∨ (it.1 = 12 ∧ VB it.2.1 9) ∨ (VB it.1 6 ∧ VB it.2.1 99 ∧ VB it.2.2.1 99 ∧ VB it.2.2.2 1 ∧ c < 8)
/-- where an item ends, or the fault -/
def outB (n b : Nat) (o : Nat ⊕ (Nat × It4)) (c : Int32) : Prop := match o with
  | .inl f => f ≤ n
  | .inr q => (b ≤ q.1 ∧ q.1 ≤ n) ∧ itOk q.2 c
theorem pOpt_b {tp : Nat → Int32} {n w p : Nat} {d : Int32} (hp : p ≤ n) (hd : VB d 99) : (∃ f, pOpt tp n w d p = .inl f ∧ f ≤ n) ∨ ∃ q v, pOpt tp n w d p = .inr (q, v) ∧ p ≤ q ∧ q ≤ n ∧ VB v 99 := by
  have h1 := bg_b (tp := tp) hp
  have h2 := en_b (tp := tp) hp
  have h3 := bg_b (tp := tp) h2.2
  have h4 := en_b (tp := tp) h2.2
  unfold pOpt
  cases hw : isW tp n w p with
  | false => exact Or.inr ⟨p, d, rfl, Nat.le_refl _, hp, hd⟩
  | true =>
    cases hN : pNum tp n 0 99 (en tp n p) with
    | false => exact Or.inl ⟨_, rfl, h3.2⟩
    | true => exact Or.inr ⟨_, _, rfl, by omega, h4.2, pNum_VB (m := 99) (by decide) hN⟩
theorem pD3_b {tp : Nat → Int32} {n p : Nat} {kind cause temper c : Int32} (hp : p ≤ n) (h1 : VB kind 6) (h2 : VB cause 99) (h3 : VB temper 99) (hc : c < 8) : (p ≤ (pD3 tp n kind cause temper p).1 ∧ (pD3 tp n kind cause temper p).1 ≤ n) ∧ itOk (pD3 tp n kind cause temper p).2 c := by
  have h4 := bg_b (tp := tp) hp
  have h5 := en_b (tp := tp) hp
  unfold pD3
  cases hw : isW tp n 12 p with
  | false => exact ⟨⟨Nat.le_refl _, hp⟩, Or.inr (Or.inr (Or.inr ⟨h1, h2, h3, ⟨0, by decide, rfl⟩, hc⟩))⟩
  | true => exact ⟨⟨by show p ≤ en tp n p; omega, h5.2⟩, Or.inr (Or.inr (Or.inr ⟨h1, h2, h3, ⟨1, by decide, rfl⟩, hc⟩))⟩
theorem pD1_b {tp : Nat → Int32} {n p : Nat} {kind c : Int32} (hp : p ≤ n) (h1 : VB kind 6) (hc : c < 8) : outB n p (pD1 tp n kind p) c := by
  unfold pD1
  rcases pOpt_b (tp := tp) (w := 10) (d := 50) hp ⟨50, by decide, rfl⟩ with ⟨f, e, hf⟩ | ⟨q, v, e, hq1, hq2, hv⟩
  · rw [e]; exact hf
  · rw [e]
    show outB n p (pD2 tp n kind v q) c
    unfold pD2
    rcases pOpt_b (tp := tp) (w := 11) (d := 20) hq2 ⟨20, by decide, rfl⟩ with ⟨f, e2, hf⟩ | ⟨q2, v2, e2, hr1, hr2, hv2⟩
    · rw [e2]; exact hf
    · rw [e2]
      have h9 := pD3_b (tp := tp) (c := c) hr2 h1 hv hv2 hc
      exact ⟨⟨Nat.le_trans (Nat.le_trans hq1 hr1) h9.1.1, h9.1.2⟩, h9.2⟩
theorem pLst_b {tp : Nat → Int32} {n p : Nat} {c : Int32} (hp : p ≤ n) : outB n p (pLst tp n p) c := by
  have a1 := bg_b (tp := tp) hp
  have a2 := en_b (tp := tp) hp
  have b1 := bg_b (tp := tp) a2.2
  have b2 := en_b (tp := tp) a2.2
  have c1 := bg_b (tp := tp) b2.2
  have c2 := en_b (tp := tp) b2.2
  unfold pLst
  cases h1 : pNum tp n 0 5 p with
  | false => exact a1.2
  | true =>
    cases h2 : pNum tp n 0 7 (en tp n p) with
    | false => exact b1.2
    | true =>
      cases h3 : pNum tp n 0 7 (en tp n (en tp n p)) with
      | false => exact c1.2
      | true => exact ⟨⟨by show p ≤ en tp n (en tp n (en tp n p)); omega, c2.2⟩, Or.inl ⟨rfl, pNum_VB (m := 5) (by decide) h1⟩⟩
theorem pOne_b {tp : Nat → Int32} {n p : Nat} {w lo hi c : Int32} (hp : p ≤ n) (hw : ∀ v, ¬ v < lo → ¬ hi < v → itOk (w, v, 0, 0) c) : outB n p (pOne tp n w lo hi p) c := by
  have a1 := bg_b (tp := tp) hp
  have a2 := en_b (tp := tp) hp
  unfold pOne
  cases h1 : pNum tp n lo hi p with
  | false => exact a1.2
  | true =>
    obtain ⟨-, q1, q2⟩ := pNum_T h1
    exact ⟨⟨by show p ≤ en tp n p; omega, a2.2⟩, hw _ q1 q2⟩
theorem outB_le {n a b : Nat} {o : Nat ⊕ (Nat × It4)} {c : Int32} (h : a ≤ b) (ho : outB n b o c) : outB n a o c := by
  cases o with
  | inl f => exact ho
  | inr q => exact ⟨⟨Nat.le_trans h ho.1.1, ho.1.2⟩, ho.2⟩
theorem isW_pos {tp : Nat → Int32} {n w p : Nat} (h : isW tp n w p = true) : bg tp n p + 1 ≤ en tp n p := by
  obtain ⟨a, -, -⟩ := isW_s h
  exact (en_s (by rw [a]; decide)).2
theorem pItem_b {tp : Nat → Int32} {n p : Nat} {c : Int32} (hp : p ≤ n) : outB n (bg tp n p + 1) (pItem tp n p c) c := by
  have a1 := bg_b (tp := tp) hp
  have a2 := en_b (tp := tp) hp
  unfold pItem
  rcases kdW_c tp n p with ⟨k1, k2⟩ | ⟨w, hw, k1, k2⟩
  · rw [k1]
    show outB n (bg tp n p + 1) (bif isW tp n 7 p then pLst tp n (en tp n p) else bif isW tp n 8 p then pOne tp n 11 1 60 (en tp n p) else bif isW tp n 9 p then pOne tp n 12 0 9 (en tp n p) else .inl (bg tp n p)) c
    cases h7 : isW tp n 7 p with
    | true => exact outB_le (isW_pos h7) (pLst_b a2.2)
    | false =>
      cases h8 : isW tp n 8 p with
      | true => exact outB_le (isW_pos h8) (pOne_b a2.2 (fun v _ _ => Or.inr (Or.inl rfl)))
      | false =>
        cases h9 : isW tp n 9 p with
        | true => exact outB_le (isW_pos h9) (pOne_b a2.2 (fun v q1 q2 => Or.inr (Or.inr (Or.inl ⟨rfl, nlt_VB (n := 9) (by decide) q1 q2⟩))))
        | false => exact a1.2
  · have k3 : ¬ kdW tp n p < 0 := by rw [k2]; exact nI_nl (by omega)
    rw [decide_eq_false k3]
    by_cases hc : c < 8
    · rw [decide_eq_true hc]
      exact outB_le (isW_pos k1) (pD1_b a2.2 ⟨w, by omega, k2⟩ hc)
    · rw [decide_eq_false hc]
      exact a1.2
theorem cm_cause (r : Nat → Int32) (m : Nat) (kind cause : Int32) : cmR r m kind cause = upf (cmR r m kind 50) (22 + 6 * m + 1) cause := by
  funext j
  by_cases e1 : j = 22 + 6 * m + 1
  · subst e1
    rw [upf_at]
    unfold cmR
    rw [upf_ne _ _ (by omega), upf_ne _ _ (by omega), upf_at]
  · rw [upf_ne _ _ e1]
    unfold cmR
    by_cases e2 : j = 1
    · subst e2; rw [upf_at, upf_at]
    · rw [upf_ne _ _ e2, upf_ne _ _ e2]
      by_cases e3 : j = 22 + 6 * m + 2
      · subst e3; rw [upf_at, upf_at]
      · rw [upf_ne _ _ e3, upf_ne _ _ e3, upf_ne _ _ e1, upf_ne _ _ e1]
theorem mR_1 {r : Nat → Int32} {m : Nat} {a b c d : Int32} : mR r m a b c d 1 = nI (m + 1) := by
  unfold mR
  rw [upf_ne _ _ (by omega), upf_ne _ _ (by omega)]
  exact cmR_1
theorem ltI8 {r : Nat → Int32} (hG : G1 r) (h : r 1 < 8) : (r 1).toNatClampNeg < 8 := by
  have e := hG.n1
  have h8 := hG.n8
  rw [e] at h
  exact (nI_ltI (a := (r 1).toNatClampNeg) (b := 8) (by omega) (by decide)).mp h
theorem VB_ne {x y : Int32} {m a : Nat} (h : VB x m) (hm : m < a) (ha : a < 100000) (hy : y = nI a) : ¬ x = y := by
  obtain ⟨j, hj, e⟩ := h
  rw [e, hy]
  intro q
  have := (nI_eq (by omega) (by omega)).mp q
  omega
theorem G1_mR {r : Nat → Int32} (hG : G1 r) {a b c d : Int32} (h8 : r 1 < 8) (ha : VB a 6) (hb : VB b 99) (hc : VB c 99) (hd : VB d 1) : G1 (mR r (r 1).toNatClampNeg a b c d) := by
  have h7 := ltI8 hG h8
  have g1 := G1_admit (a := a) (b := b) hG h7 hG.n1 ha hb
  have e1 : (cmR r (r 1).toNatClampNeg a b 1).toNatClampNeg = (r 1).toNatClampNeg + 1 := by rw [cmR_1, nI_cl (by omega)]
  have g2 := G1_put (d := (r 1).toNatClampNeg) (g := 2) (v := c) g1 (by rw [e1]; omega) (by decide) (nf rfl) (nf rfl) (fun _ => hc) (nf rfl) (nf rfl)
  exact G1_put (d := (r 1).toNatClampNeg) (g := 5) (v := d) g2 (by rw [upf_1, e1]; omega) (by decide) (nf rfl) (nf rfl) (nf rfl) (nf rfl) (fun _ => hd)
theorem tell_k {it : It4} {r : Nat → Int32} (h : VB it.1 6) : tellR it r = mR r (r 1).toNatClampNeg it.1 it.2.1 it.2.2.1 it.2.2.2 := by
  unfold tellR
  rw [decide_eq_false (VB_ne (y := 10) h (by decide) (by decide) rfl), decide_eq_false (VB_ne (y := 11) h (by decide) (by decide) rfl), decide_eq_false (VB_ne (y := 12) h (by decide) (by decide) rfl)]
  rfl
theorem G1_tell {r : Nat → Int32} (hG : G1 r) {it : It4} (h : itOk it (r 1)) : G1 (tellR it r) := by
  rcases h with ⟨h1, m, hm, e⟩ | h1 | ⟨h1, h2⟩ | ⟨h1, h2, h3, h4, h5⟩
  · unfold tellR
    rw [decide_eq_true h1, e, nI_cl (by omega)]
    exact G1_l hG (by omega) _
  · unfold tellR
    rw [h1]
    exact G1_h hG _
  · unfold tellR
    rw [h1]
    exact G1_own hG (by decide) (by decide) (nf rfl) (fun _ => h2) (nf rfl)
  · rw [tell_k h1]
    exact G1_mR hG h5 h1 h2 h3 h4
/-- the items of a row, told one by one -/
def itAt (f : Nat → Int32) (i : Nat) : It4 := (f (4 * i), f (4 * i + 1), f (4 * i + 2), f (4 * i + 3))
def tl (f r : Nat → Int32) : Nat → Nat → Int32
  | 0 => r
  | i + 1 => tellR (itAt f i) (tl f r i)
def u4 (f : Nat → Int32) (j : Nat) (it : It4) : Nat → Int32 := upf (upf (upf (upf f (4 * j) it.1) (4 * j + 1) it.2.1) (4 * j + 2) it.2.2.1) (4 * j + 3) it.2.2.2
theorem u4_at (f : Nat → Int32) (j : Nat) (it : It4) : itAt (u4 f j it) j = it := by
  unfold itAt u4
  rw [upf_at, upf_ne _ _ (show ¬ 4 * j = 4 * j + 3 by omega), upf_ne _ _ (show ¬ 4 * j = 4 * j + 2 by omega), upf_ne _ _ (show ¬ 4 * j = 4 * j + 1 by omega), upf_at, upf_ne _ _ (show ¬ 4 * j + 1 = 4 * j + 3 by omega), upf_ne _ _ (show ¬ 4 * j + 1 = 4 * j + 2 by omega), upf_at, upf_ne _ _ (show ¬ 4 * j + 2 = 4 * j + 3 by omega), upf_at]
theorem u4_ne (f : Nat → Int32) {j i : Nat} (it : It4) (h : i < j) : itAt (u4 f j it) i = itAt f i := by
  unfold itAt u4
  rw [upf_ne _ _ (show ¬ 4 * i = 4 * j + 3 by omega), upf_ne _ _ (show ¬ 4 * i = 4 * j + 2 by omega), upf_ne _ _ (show ¬ 4 * i = 4 * j + 1 by omega), upf_ne _ _ (show ¬ 4 * i = 4 * j by omega), upf_ne _ _ (show ¬ 4 * i + 1 = 4 * j + 3 by omega), upf_ne _ _ (show ¬ 4 * i + 1 = 4 * j + 2 by omega), upf_ne _ _ (show ¬ 4 * i + 1 = 4 * j + 1 by omega), upf_ne _ _ (show ¬ 4 * i + 1 = 4 * j by omega), upf_ne _ _ (show ¬ 4 * i + 2 = 4 * j + 3 by omega), upf_ne _ _ (show ¬ 4 * i + 2 = 4 * j + 2 by omega), upf_ne _ _ (show ¬ 4 * i + 2 = 4 * j + 1 by omega), upf_ne _ _ (show ¬ 4 * i + 2 = 4 * j by omega), upf_ne _ _ (show ¬ 4 * i + 3 = 4 * j + 3 by omega), upf_ne _ _ (show ¬ 4 * i + 3 = 4 * j + 2 by omega), upf_ne _ _ (show ¬ 4 * i + 3 = 4 * j + 1 by omega), upf_ne _ _ (show ¬ 4 * i + 3 = 4 * j by omega)]
theorem tl_u4 (f r : Nat → Int32) (j : Nat) (it : It4) : ∀ i, i ≤ j → tl (u4 f j it) r i = tl f r i := by
  intro i
  induction i with
  | zero => intro _; rfl
  | succ i ih =>
    intro h
    show tellR (itAt (u4 f j it) i) (tl (u4 f j it) r i) = tellR (itAt f i) (tl f r i)
    rw [ih (by omega), u4_ne f it (by omega)]
theorem tl_s (f r : Nat → Int32) (j : Nat) (it : It4) : tl (u4 f j it) r (j + 1) = tellR it (tl f r j) := by
  show tellR (itAt (u4 f j it) j) (tl (u4 f j it) r j) = _
  rw [u4_at, tl_u4 f r j it j (Nat.le_refl _)]
/-- the whole text: the fault, or how many items and these -/
def pT (tp : Nat → Int32) (n : Nat) (r : Nat → Int32) : Nat → Nat → Nat → (Nat → Int32) → Nat ⊕ (Nat × (Nat → Int32))
  | 0, _, _, _ => .inl 0
  | m + 1, p, j, f => match pItem tp n p (tl f r j 1) with
    | .inl x => .inl x
    | .inr q => bif decide (srt tp n q.1 = 0) then .inr (j + 1, u4 f j q.2) else bif decide (srt tp n q.1 = 3) && decide (tp (bg tp n q.1) = 59) then pT tp n r m (en tp n q.1) (j + 1) (u4 f j q.2) else .inl (bg tp n q.1)
