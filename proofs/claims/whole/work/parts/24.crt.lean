/-! the class's words of a court, and those of the row -/
abbrev aq (c : Nat) (x : Int32) : Nat := 5 + 8 * c + x.toNatClampNeg
def turnsX (μ : Mem) (c : Nat) (h a b : Int32) : Int32 := h * (10 - μ c 1) / 7 + joltsV (μ (aq c a) 0) (μ (aq c a) 2) (μ c 3) + joltsV (μ (aq c b) 0) (μ (aq c b) 2) (μ c 3)
def pressesX (μ : Mem) (c : Nat) (a : Int32) : Int32 := pressesV (μ (aq c a) 0) (μ (aq c a) 1) (μ (aq c a) 2) (μ c 1)
def loserX (μ : Mem) (c : Nat) (h a b : Int32) : Int32 := if turnsX μ c h a b % 13 = 0 then -1 else if pressesX μ c a < pressesX μ c b then (if turnsX μ c h a b % 2 = 0 then a else b) else (if turnsX μ c h a b % 2 = 0 then b else a)
abbrev LX (μ : Mem) (c : Nat) : Int32 := μ (3 + c) (μ c 3 % 6).toNatClampNeg
def foX (μ : Mem) (c : Nat) : Int32 := if LX μ c / 10 < 0 then 1 else if LX μ c / 10 < μ c 7 then (if LX μ c % 10 < 0 then 1 else if LX μ c % 10 < μ c 7 then (if LX μ c / 10 = LX μ c % 10 then 1 else if μ (aq c (LX μ c / 10)) 5 = 1 then 1 else if μ (aq c (LX μ c % 10)) 5 = 1 then 1 else 0) else 1) else 1
def lfX (μ : Mem) (c : Nat) (a b : Int32) : Mem := if loserX μ c (μ c 0) a b = -1 then up2 μ c 2 (minI (μ c 2 + 1) 9999) else if loserX μ c (μ c 0) a b = a then up1 (up1 μ (aq c (loserX μ c (μ c 0) a b)) (fwX (μ (aq c (loserX μ c (μ c 0) a b))))) (aq c b) (frX (up1 μ (aq c (loserX μ c (μ c 0) a b)) (fwX (μ (aq c (loserX μ c (μ c 0) a b)))) (aq c b))) else up1 (up1 μ (aq c (loserX μ c (μ c 0) a b)) (fwX (μ (aq c (loserX μ c (μ c 0) a b))))) (aq c a) (frX (up1 μ (aq c (loserX μ c (μ c 0) a b)) (fwX (μ (aq c (loserX μ c (μ c 0) a b)))) (aq c a)))
def hasR (r : Nat → Int32) (x : Int32) : Prop := ∃ d : Nat, d < (r 1).toNatClampNeg ∧ x = nI d
theorem hasR.dI {r : Nat → Int32} {x : Int32} (h : hasR r x) (hG : G1 r) : dI x := by
  obtain ⟨d, hd, e⟩ := h
  exact ⟨d, Nat.lt_of_lt_of_le hd hG.n8, e⟩
theorem lt_iff {n : Nat} (hn : n ≤ 8) (x : Int32) : x < nI n ↔ ¬ nI n - 1 < x := by
  have e1 : (nI n - 1).toInt = (n : Int) - 1 := by
    have := pk_sub_toInt (a := n) (b := 1) (by omega) (by omega)
    exact this
  rw [Int32.lt_iff_toInt_lt, Int32.lt_iff_toInt_lt, e1, nI_toInt (by omega)]
  omega
theorem G1.lt {r : Nat → Int32} (h : G1 r) (x : Int32) : x < r 1 ↔ ¬ ra r 1 - 1 < x := by
  have := lt_iff h.n8 x
  rw [← h.n1] at this
  exact this
theorem G1.has {r : Nat → Int32} (h : G1 r) {x : Int32} (h1 : ¬ x < 0) (h2 : x < r 1) : hasR r x := by
  have h3 := (h.lt x).mp h2
  have e : ra r 1 = nI (r 1).toNatClampNeg := h.n1
  rw [e] at h3
  exact toN_lt h1 h.n8 h3
theorem rD_n (r : Nat → Int32) {d g : Nat} (hd : d < 8) (hg : g < 6) : rD r (nI d) (nI g) = r (22 + 6 * d + g) := by
  show r ((22 : Int32) + 6 * nI d + nI g).toNatClampNeg = _
  rw [ixD_cl hd hg]
theorem rep_at {μ : Mem} {c : Nat} {r : Nat → Int32} (hR : Rep μ c r) (hG : G1 r) {x : Int32} (hx : hasR r x) {g : Nat} (hg : g < 6) : μ (aq c x) g = rD r x (nI g) := by
  obtain ⟨d, hd, rfl⟩ := hx
  have h8 := hG.n8
  rw [rD_n r (by omega) hg]
  show μ (5 + 8 * c + (nI d).toNatClampNeg) g = _
  rw [nI_cl (by omega)]
  exact hR.2.2.2 d hd g hg
theorem pressesX_eq {μ : Mem} {c : Nat} {r : Nat → Int32} (hR : Rep μ c r) (hG : G1 r) {x : Int32} (hx : hasR r x) : pressesX μ c x = pressesR r x := by
  unfold pressesX pressesR
  rw [rep_at hR hG hx (by decide : 0 < 6), rep_at hR hG hx (by decide : 1 < 6), rep_at hR hG hx (by decide : 2 < 6), hR.1.2.2.2.2.1]
  rfl
theorem turnsX_eq {μ : Mem} {c : Nat} {r : Nat → Int32} (hR : Rep μ c r) (hG : G1 r) {h x y : Int32} (hx : hasR r x) (hy : hasR r y) : turnsX μ c h x y = turnsH h r x y := by
  unfold turnsX turnsH joltsR
  rw [rep_at hR hG hx (by decide : 0 < 6), rep_at hR hG hx (by decide : 2 < 6), rep_at hR hG hy (by decide : 0 < 6), rep_at hR hG hy (by decide : 2 < 6), hR.1.2.2.2.2.1, hR.1.1]
  rfl
theorem nI_div (a d : Nat) (ha : a < 100000) (h0 : 0 < d) (hd : d < 1000) : nI a / nI d = nI (a / d) := pk_div (by omega) h0 (by omega)
theorem minI_n (a b : Nat) (ha : a < 100000) (hb : b < 100000) : minI (nI a) (nI b) = nI (min a b) := by
  unfold minI
  by_cases h : b < a
  · rw [if_pos (nI_lt h (by omega)), Nat.min_eq_right (by omega)]
  · rw [if_neg (nI_nlt (by omega) (by omega)), Nat.min_eq_left (by omega)]
theorem parson_n (c s : Nat) : parsonV (nI c) (nI s) = nI (c + s) ∨ parsonV (nI c) (nI s) = nI (c + s + s) := by
  unfold parsonV
  split
  · left; rw [nI_add]; show nI (c + s) + nI 0 = _; rw [nI_add]; rfl
  · right; rw [nI_add, nI_add]
theorem presses_b {kind cause temper spread : Int32} (h1 : VB cause 99) (h2 : VB temper 99) (h3 : VB spread 9) : VB (pressesV kind cause temper spread) 400 := by
  obtain ⟨a, ha, rfl⟩ := h1
  obtain ⟨t, ht, rfl⟩ := h2
  obtain ⟨s, hs, rfl⟩ := h3
  unfold pressesV
  have q4 : (4 : Int32) = nI 4 := rfl
  have q2 : (2 : Int32) = nI 2 := rfl
  have q5 : (5 : Int32) = nI 5 := rfl
  split
  · exact ⟨a + t / 4, by omega, by rw [q4, nI_div t 4 (by omega) (by decide) (by decide), nI_add]⟩
  split
  · exact ⟨a + s, by omega, by rw [nI_add]⟩
  split
  · rcases parson_n a s with h | h
    · exact ⟨a + s, by omega, h⟩
    · exact ⟨a + s + s, by omega, h⟩
  split
  · rcases parson_n a s with h | h
    · refine ⟨min (2 * (a + s)) 99, by omega, ?_⟩
      rw [h, q2, pk_mul]
      exact minI_n _ 99 (by omega) (by omega)
    · refine ⟨min (2 * (a + s + s)) 99, by omega, ?_⟩
      rw [h, q2, pk_mul]
      exact minI_n _ 99 (by omega) (by omega)
  split
  · exact ⟨a / 2, by omega, by rw [q2, nI_div a 2 (by omega) (by decide) (by decide)]⟩
  split
  · rw [q4, nI_div t 4 (by omega) (by decide) (by decide), nI_add, q5]
    unfold maxI
    by_cases h : a + t / 4 < 5
    · rw [if_pos (pk_sneg (by omega) h)]
      exact ⟨0, by omega, rfl⟩
    · rw [pk_sub (by omega), if_neg (nI_nl (by omega))]
      exact ⟨a + t / 4 - 5, by omega, rfl⟩
  · exact ⟨a, by omega, rfl⟩
theorem pressesR_b {r : Nat → Int32} (hG : G1 r) {x : Int32} (hx : hasR r x) : VB (pressesR r x) 400 := by
  obtain ⟨d, hd, rfl⟩ := hx
  have h8 := hG.n8
  obtain ⟨-, g1, g2, -⟩ := hG.2.2 d hd
  unfold pressesR
  refine presses_b ?_ ?_ hG.1.2.2.1
  · rw [show (1 : Int32) = nI 1 from rfl, rD_n r (by omega) (by decide)]; exact g1
  · rw [show (2 : Int32) = nI 2 from rfl, rD_n r (by omega) (by decide)]; exact g2
theorem lt_sub {x y : Int32} (hx : VB x 400) (hy : VB y 400) : (x - y < 0) = (x < y) := by
  obtain ⟨a, ha, rfl⟩ := hx
  obtain ⟨b, hb, rfl⟩ := hy
  rw [Int32.lt_iff_toInt_lt, Int32.lt_iff_toInt_lt, pk_sub_toInt (by omega) (by omega), nI_toInt (by omega), nI_toInt (by omega)]
  show ((a : Int) - b < 0) = _
  exact propext ⟨fun h => by omega, fun h => by omega⟩
theorem loserX_eq {μ : Mem} {c : Nat} {r : Nat → Int32} (hR : Rep μ c r) (hG : G1 r) {h x y : Int32} (hx : hasR r x) (hy : hasR r y) : loserX μ c h x y = loserH h r x y := by
  unfold loserX loserH
  rw [turnsX_eq hR hG hx hy, pressesX_eq hR hG hx, pressesX_eq hR hG hy]
  have hs := lt_sub (pressesR_b hG hx) (pressesR_b hG hy)
  by_cases h1 : turnsH h r x y % 13 = 0
  · rw [if_pos h1, if_pos h1]
  · rw [if_neg h1, if_neg h1]
    by_cases h2 : pressesR r x < pressesR r y
    · have h3 : pressesR r x - pressesR r y < 0 := by rw [hs]; exact h2
      rw [if_pos h2, if_pos h3, if_pos h3]
    · have h3 : ¬ pressesR r x - pressesR r y < 0 := by rw [hs]; exact h2
      rw [if_neg h2, if_neg h3, if_neg h3]
theorem G1.t6 {r : Nat → Int32} (hG : G1 r) : ∃ t : Nat, t < 6 ∧ r 0 % 6 = nI t ∧ (6 : Int32) + ra r 0 % 6 = nI (6 + t) := by
  obtain ⟨t, ht, e⟩ := hG.1.1
  have h1 := pk_rem (a := t) (d := 6) (by omega) (by decide) (by decide)
  rw [irem_eq_mod] at h1
  refine ⟨t % 6, by omega, ?_, ?_⟩
  · rw [e]; exact h1
  · show (6 : Int32) + r 0 % 6 = _
    rw [e, ixL t (by omega)]
theorem LX_eq {μ : Mem} {c : Nat} {r : Nat → Int32} (hR : Rep μ c r) (hG : G1 r) : LX μ c = LR r := by
  obtain ⟨t, ht, e1, e2⟩ := hG.t6
  show μ (3 + c) (μ c 3 % 6).toNatClampNeg = r ((6 : Int32) + ra r 0 % 6).toNatClampNeg
  rw [hR.1.1, e1, e2, nI_cl (by omega), nI_cl (by omega)]
  exact hR.2.1 t ht
theorem LX_in {μ : Mem} {c : Nat} {r : Nat → Int32} (hR : Rep μ c r) (hG : G1 r) : inB (μ c 3 % 6) 6 = true := by
  obtain ⟨t, ht, e1, e2⟩ := hG.t6
  rw [hR.1.1, e1]
  exact inB_nI ht (by decide)
theorem foX_eq {μ : Mem} {c : Nat} {r : Nat → Int32} (hR : Rep μ c r) (hG : G1 r) : foX μ c = foI r := by
  unfold foX foI
  rw [LX_eq hR hG, hR.1.2.1]
  by_cases h1 : LR r / 10 < 0
  · rw [if_pos h1, if_pos h1]
  · rw [if_neg h1, if_neg h1]
    by_cases h2 : LR r / 10 < r 1
    · have h2' := (hG.lt _).mp h2
      rw [if_pos h2, if_neg h2']
      by_cases h3 : LR r % 10 < 0
      · rw [if_pos h3, if_pos h3]
      · rw [if_neg h3, if_neg h3]
        by_cases h4 : LR r % 10 < r 1
        · have h4' := (hG.lt _).mp h4
          rw [if_pos h4, if_neg h4', rep_at hR hG (hG.has h1 h2) (by decide : 5 < 6), rep_at hR hG (hG.has h3 h4) (by decide : 5 < 6)]
          rfl
        · have h4' : ra r 1 - 1 < LR r % 10 := Classical.byContradiction (fun q => h4 ((hG.lt _).mpr q))
          rw [if_neg h4, if_pos h4']
    · have h2' : ra r 1 - 1 < LR r / 10 := Classical.byContradiction (fun q => h2 ((hG.lt _).mpr q))
      rw [if_neg h2, if_pos h2']
