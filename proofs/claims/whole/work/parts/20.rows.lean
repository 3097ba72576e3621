/-! rows of numbers: what the reference does, as functions on its row -/
theorem brk {c : Prop} {h : Decidable c} {A B : Option Rz} {a b : Int32} {k : Rtn} {μ : Mem} (h1 : c → A = k (some (.int a)) μ) (h2 : ¬ c → B = k (some (.int b)) μ) : @ite _ c h A B = k (some (.int (@ite _ c h a b))) μ := by
  by_cases q : c
  · rw [if_pos q, if_pos q]; exact h1 q
  · rw [if_neg q, if_neg q]; exact h2 q
theorem unl {S : Sem} {as : List Value} {μ : Mem} {k : Rtn} {X : Option Rz} (h : S as μ k = X) : lockS S 0 as μ k = X := by rw [lockS_eq]; exact h
theorem unO {o : Op} {n : Nxt} {k : Rtn} {ls : LSt} {st : List Value} {μ : Mem} {X : Option Rz} (h : o n k ls st μ = X) : lockO o 0 n k ls st μ = X := by rw [lockO_eq]; exact h
def minI (x y : Int32) : Int32 := if y < x then y else x
def maxI (x y : Int32) : Int32 := if x < y then y else x
def parsonV (cause spread : Int32) : Int32 := if spread < 5 then cause + spread + 0 else cause + spread + spread
def pressesV (kind cause temper spread : Int32) : Int32 := if kind = 1 then cause + temper / 4 else if kind = 2 then cause + spread else if kind = 3 then parsonV cause spread else if kind = 4 then minI (2 * parsonV cause spread) 99 else if kind = 5 then cause / 2 else if kind = 6 then maxI (cause + temper / 4 - 5) 0 else cause
def joltsV (kind temper drop : Int32) : Int32 := if kind = 1 then temper / 10 + 1 else if kind = 2 then 0 else if kind = 3 then drop % 2 else if kind = 4 then drop % 2 else if kind = 5 then temper / 10 + 3 else if kind = 6 then temper / 10 + 1 else temper / 10
def growsV (kind : Int32) : Int32 := if kind = 1 then 12 else if kind = 2 then 3 else if kind = 3 then 0 else if kind = 4 then 0 else if kind = 5 then 8 else if kind = 6 then 12 else 6
def learnsV (kind : Int32) : Int32 := if kind = 1 then 0 else if kind = 5 then 7 else if kind = 6 then 5 else 3
def coolsV (kind : Int32) : Int32 := if kind = 0 then 1 else if kind = 1 then 1 else if kind = 5 then 5 else 2
theorem minI_comm (x y : Int32) : minI x y = minI y x := by
  unfold minI
  by_cases h1 : y < x
  · have h2 : ¬ x < y := Int32.not_lt.mpr (Int32.le_of_lt h1)
    rw [if_pos h1, if_neg h2]
  · by_cases h2 : x < y
    · rw [if_neg h1, if_pos h2]
    · rw [if_neg h1, if_neg h2]
      exact Int32.le_antisymm (Int32.not_lt.mp h1) (Int32.not_lt.mp h2)
theorem maxI_comm (x y : Int32) : maxI x y = maxI y x := by
  unfold maxI
  by_cases h1 : x < y
  · have h2 : ¬ y < x := Int32.not_lt.mpr (Int32.le_of_lt h1)
    rw [if_pos h1, if_neg h2]
  · by_cases h2 : y < x
    · rw [if_neg h1, if_pos h2]
    · rw [if_neg h1, if_neg h2]
      exact Int32.le_antisymm (Int32.not_lt.mp h2) (Int32.not_lt.mp h1)
theorem parson_eq (c s : Int32) : (if s < 5 then c + s else c + 2 * s) = parsonV c s := by
  unfold parsonV
  by_cases h : s < 5
  · rw [if_pos h, if_pos h]; simp
  · rw [if_neg h, if_neg h]; grind
theorem ixD (d g : Nat) : (22 : Int32) + 6 * nI d + nI g = nI (22 + 6 * d + g) := by
  rw [show (22 : Int32) = nI 22 from rfl, show (6 : Int32) = nI 6 from rfl, pk_mul, nI_add, nI_add]
theorem nI_nl {n : Nat} (h : n < 100000) : ¬ nI n < 0 := nI_pos (by omega)
theorem nI_cl {n : Nat} (h : n < 100000) : (nI n).toNatClampNeg = n := nI_clamp (by omega)
theorem inB_nI {n L : Nat} (h : n < L) (hL : L < 100000) : inB (nI n) L = true := by
  unfold inB
  rw [decide_eq_false (nI_nl (by omega)), nI_cl (by omega)]
  exact Nat.ble_eq_true_of_le h
abbrev ra (r : Nat → Int32) (i : Int32) : Int32 := r i.toNatClampNeg
abbrev rD (r : Nat → Int32) (x f : Int32) : Int32 := ra r (22 + 6 * x + f)
def dI (x : Int32) : Prop := ∃ d : Nat, d < 8 ∧ x = nI d
def fI (x : Int32) : Prop := ∃ d : Nat, d < 6 ∧ x = nI d
theorem f0 : fI 0 := ⟨0, by decide, rfl⟩
theorem f1 : fI 1 := ⟨1, by decide, rfl⟩
theorem f2 : fI 2 := ⟨2, by decide, rfl⟩
theorem f3 : fI 3 := ⟨3, by decide, rfl⟩
theorem f4 : fI 4 := ⟨4, by decide, rfl⟩
theorem f5 : fI 5 := ⟨5, by decide, rfl⟩
theorem dI_in {x f : Int32} (h : dI x) (hf : fI f) : inB ((22 : Int32) + 6 * x + f) 70 = true := by
  obtain ⟨d, hd, rfl⟩ := h
  obtain ⟨g, hg, rfl⟩ := hf
  rw [ixD]
  exact inB_nI (by omega) (by omega)
theorem e_dIs {μ : Mem} {k : Rtn} {X : Option Rz} {x y : Int32} (hx : dI x) (hy : fI y) (hk : k (some (.int (rD (μ 50) x y))) μ = X) : S_X5_disputantIs [.ref 49, .int x, .int y] μ k = X := by
  refine unl (bfT rfl ?_)
  refine (@bfT _ _ _ _ _ (dI_in hx hy)) ?_
  exact hk
def pressesW (kind cause temper spread parson : Int32) : Int32 := if kind = 1 then cause + temper / 4 else if kind = 2 then cause + spread else if kind = 3 then parson else if kind = 4 then minI 99 (2 * parson) else if kind = 5 then cause / 2 else if kind = 6 then maxI 0 (cause + temper / 4 - 5) else cause
theorem pressesW_eq (kind cause temper spread : Int32) : pressesV kind cause temper spread = pressesW kind cause temper spread (if spread < 5 then cause + spread else cause + 2 * spread) := by
  rw [parson_eq]
  unfold pressesV pressesW
  rw [minI_comm 99, maxI_comm 0]
def pressesR (r : Nat → Int32) (x : Int32) : Int32 := pressesV (rD r x 0) (rD r x 1) (rD r x 2) (ra r 4)
def joltsR (r : Nat → Int32) (x : Int32) : Int32 := joltsV (rD r x 0) (rD r x 2) (ra r 0)
theorem e_grows {μ : Mem} {k : Rtn} {X : Option Rz} {x : Int32} (hx : dI x) (hk : k (some (.int (growsV (rD (μ 50) x 0)))) μ = X) : S_X5_grows [.ref 49, .int x] μ k = X := by
  rw [← hk]
  refine unl (bfT rfl ?_)
  refine e_dIs hx f0 ?_
  repeat' (first | refine brk (fun h => ?_) (fun h => ?_) | refine brF c10 ?_ | refine brT c00 ?_)
  all_goals rfl
theorem e_learns {μ : Mem} {k : Rtn} {X : Option Rz} {x : Int32} (hx : dI x) (hk : k (some (.int (learnsV (rD (μ 50) x 0)))) μ = X) : S_X5_learns [.ref 49, .int x] μ k = X := by
  rw [← hk]
  refine unl (bfT rfl ?_)
  refine e_dIs hx f0 ?_
  repeat' (first | refine brk (fun h => ?_) (fun h => ?_) | refine brF c10 ?_ | refine brT c00 ?_)
  all_goals rfl
theorem e_cools {μ : Mem} {k : Rtn} {X : Option Rz} {x : Int32} (hx : dI x) (hk : k (some (.int (coolsV (rD (μ 50) x 0)))) μ = X) : S_X5_cools [.ref 49, .int x] μ k = X := by
  rw [← hk]
  refine unl (bfT rfl ?_)
  refine e_dIs hx f0 ?_
  repeat' (first | refine brk (fun h => ?_) (fun h => ?_) | refine brF c10 ?_ | refine brT c00 ?_)
  all_goals rfl
theorem e_jolts {μ : Mem} {k : Rtn} {X : Option Rz} {x : Int32} (hx : dI x) (hk : k (some (.int (joltsR (μ 50) x))) μ = X) : S_X5_jolts [.ref 49, .int x] μ k = X := by
  rw [← hk]
  refine unl (bfT rfl ?_)
  refine e_dIs hx f2 ?_
  refine e_dIs hx f0 ?_
  repeat' (first | refine brk (fun h => ?_) (fun h => ?_) | refine brF c10 ?_ | refine brT c00 ?_)
  all_goals rfl
set_option maxRecDepth 100000 in
theorem e_presses {μ : Mem} {k : Rtn} {X : Option Rz} {x : Int32} (hx : dI x) (hk : k (some (.int (pressesR (μ 50) x))) μ = X) : S_X5_presses [.ref 49, .int x] μ k = X := by
  rw [← hk]
  unfold pressesR
  rw [pressesW_eq]
  refine unl (bfT rfl ?_)
  refine e_dIs hx f1 ?_
  refine e_dIs hx f2 ?_
  by_cases h5 : ra (μ 50) 4 < 5
  · rw [if_pos h5]
    refine brT h5 ?_
    refine e_dIs hx f0 ?_
    refine brk (fun h => rfl) (fun h => ?_)
    refine brk (fun h => rfl) (fun h => ?_)
    refine brk (fun h => rfl) (fun h => ?_)
    refine brk (fun h => rfl) (fun h => ?_)
    refine brk (fun h => rfl) (fun h => ?_)
    refine brk (fun h => rfl) (fun h => ?_)
    rfl
  · rw [if_neg h5]
    refine brF h5 ?_
    refine e_dIs hx f0 ?_
    refine brk (fun h => rfl) (fun h => ?_)
    refine brk (fun h => rfl) (fun h => ?_)
    refine brk (fun h => rfl) (fun h => ?_)
    refine brk (fun h => rfl) (fun h => ?_)
    refine brk (fun h => rfl) (fun h => ?_)
    refine brk (fun h => rfl) (fun h => ?_)
    rfl
def turnsH (h : Int32) (r : Nat → Int32) (a b : Int32) : Int32 := h * (10 - ra r 4) / 7 + joltsR r a + joltsR r b
def loserH (h : Int32) (r : Nat → Int32) (a b : Int32) : Int32 := if turnsH h r a b % 13 = 0 then -1 else if turnsH h r a b % 2 = 0 then (if pressesR r a - pressesR r b < 0 then a else b) else (if pressesR r a - pressesR r b < 0 then b else a)
theorem e_turnsOf {μ : Mem} {k : Rtn} {X : Option Rz} {x y : Int32} (hx : dI x) (hy : dI y) (hk : k (some (.int (turnsH (ra (μ 50) 3) (μ 50) x y))) μ = X) : S_X5_turnsOf [.ref 49, .int x, .int y] μ k = X := by
  rw [← hk]
  refine unl (bfT rfl ?_)
  refine e_jolts hx ?_
  refine e_jolts hy ?_
  rfl
theorem e_fallsFor {μ : Mem} {k : Rtn} {X : Option Rz} {x y : Int32} (hx : dI x) (hy : dI y) (hk : k (some (.int (loserH (ra (μ 50) 3) (μ 50) x y))) μ = X) : S_X5_fallsFor [.ref 49, .int x, .int y] μ k = X := by
  rw [← hk]
  refine unl (bfT rfl ?_)
  refine e_turnsOf hx hy ?_
  refine brk (fun h => ?_) (fun h => ?_)
  · rfl
  refine e_presses hx ?_
  refine e_presses hy ?_
  repeat' (first | refine brk (fun h => ?_) (fun h => ?_) | refine brF c10 ?_ | refine brT c00 ?_)
  all_goals rfl
theorem toN {x : Int32} (h : ¬ x < 0) : x = nI x.toNatClampNeg := by
  obtain ⟨j, hj, e⟩ := nI_of h
  rw [e, nI_clamp hj]
theorem toN_lt {x : Int32} {n : Nat} (h : ¬ x < 0) (hn : n ≤ 8) (h2 : ¬ nI n - 1 < x) : ∃ d : Nat, d < n ∧ x = nI d := by
  obtain ⟨j, hj, e⟩ := nI_of h
  subst e
  refine ⟨j, ?_, rfl⟩
  rcases Nat.lt_or_ge j n with q | q
  · exact q
  · exfalso
    apply h2
    have e1 : (nI n - 1).toInt = (n : Int) - 1 := by
      have := pk_sub_toInt (a := n) (b := 1) (by omega) (by omega)
      exact this
    rw [Int32.lt_iff_toInt_lt, e1, nI_toInt hj]
    omega
theorem ixL (t : Nat) (h : t < 2 ^ 31) : (6 : Int32) + nI t % 6 = nI (6 + t % 6) := by
  have h1 := pk_rem (a := t) (d := 6) h (by decide) (by decide)
  rw [irem_eq_mod] at h1
  rw [show (6 : Int32) = nI 6 from rfl, h1, nI_add]
abbrev LR (r : Nat → Int32) : Int32 := ra r (6 + ra r 0 % 6)
def foI (r : Nat → Int32) : Int32 := if LR r / 10 < 0 then 1 else if ra r 1 - 1 < LR r / 10 then 1 else if LR r % 10 < 0 then 1 else if ra r 1 - 1 < LR r % 10 then 1 else if LR r / 10 = LR r % 10 then 1 else if rD r (LR r / 10) 5 = 1 then 1 else if rD r (LR r % 10) 5 = 1 then 1 else 0
def G0 (r : Nat → Int32) : Prop := (∃ t : Nat, t ≤ 99999 ∧ ra r 0 = nI t) ∧ ∃ n : Nat, n ≤ 8 ∧ ra r 1 = nI n
theorem G0.ix {r : Nat → Int32} (h : G0 r) : inB ((6 : Int32) + ra r 0 % 6) 70 = true := by
  obtain ⟨⟨t, ht, e⟩, -⟩ := h
  rw [e, ixL t (by omega)]
  exact inB_nI (by omega) (by omega)
theorem G0.has {r : Nat → Int32} (h : G0 r) {x : Int32} (h1 : ¬ x < 0) (h2 : ¬ ra r 1 - 1 < x) : dI x := by
  obtain ⟨-, n, hn, en⟩ := h
  rw [en] at h2
  obtain ⟨d, hd, e⟩ := toN_lt h1 hn h2
  exact ⟨d, by omega, e⟩
set_option maxRecDepth 100000 in
theorem e_fallsOut {μ : Mem} {k : Rtn} {X : Option Rz} (hG : G0 (μ 50)) (hk : k (some (.int (foI (μ 50)))) μ = X) : S_X5_fallsOut [.ref 49] μ k = X := by
  rw [← hk]
  refine unl (bfT rfl ?_)
  refine (@bfT _ _ _ _ _ (hG.ix)) ?_
  refine (@bfT _ _ _ _ _ (hG.ix)) ?_
  refine brk (fun h => ?_) (fun g1 => ?_)
  · rfl
  refine brk (fun h => ?_) (fun g2 => ?_)
  · rfl
  refine brk (fun h => rfl) (fun g3 => ?_)
  refine brk (fun h => rfl) (fun g4 => ?_)
  refine brk (fun h => rfl) (fun g5 => ?_)
  repeat (first | refine brF c10 ?_ | refine brT c00 ?_)
  refine e_dIs (hG.has g1 g2) f5 ?_
  refine brk (fun h => rfl) (fun g6 => ?_)
  refine e_dIs (hG.has g3 g4) f5 ?_
  refine brk (fun h => rfl) (fun g7 => ?_)
  rfl
