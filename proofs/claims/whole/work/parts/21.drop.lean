/-! a drop of the reference -/
abbrev ua (r : Nat → Int32) (i v : Int32) : Nat → Int32 := upf r i.toNatClampNeg v
theorem up1_same (μ : Mem) (i : Nat) (a b : Nat → Int32) : up1 (up1 μ i a) i b = up1 μ i b := by
  funext j
  unfold up1
  cases Nat.beq j i <;> rfl
theorem up1_self (μ : Mem) (i : Nat) : up1 μ i (μ i) = μ := by
  funext j
  unfold up1
  cases h : Nat.beq j i with
  | true => rw [Nat.eq_of_beq_eq_true h]; rfl
  | false => rfl
theorem up1_at (μ : Mem) (i : Nat) (a : Nat → Int32) : up1 μ i a i = a := by
  unfold up1
  rw [beqT]
  rfl
theorem up1_ne (μ : Mem) {i j : Nat} (a : Nat → Int32) (h : ¬ j = i) : up1 μ i a j = μ j := by
  unfold up1
  rw [beqF h]
  rfl
theorem up2_up1 (μ : Mem) (i : Nat) (a : Nat → Int32) (j : Nat) (v : Int32) : up2 (up1 μ i a) i j v = up1 μ i (upf a j v) := by
  unfold up2
  rw [up1_at, up1_same]
theorem upf_at (f : Nat → Int32) (k : Nat) (v : Int32) : upf f k v k = v := by
  unfold upf
  rw [beqT]
  rfl
theorem upf_ne (f : Nat → Int32) {k j : Nat} (v : Int32) (h : ¬ j = k) : upf f k v j = f j := by
  unfold upf
  rw [beqF h]
  rfl
theorem e_more {μ : Mem} {k : Rtn} {X : Option Rz} {p b h : Int32} (hp : inB p 70 = true) (hk : ∀ μ', μ' = up1 μ 50 (ua (μ 50) p (minI h (ra (μ 50) p + b))) → k none μ' = X) : S_X5_more [.ref 49, .int p, .int b, .int h] μ k = X := by
  refine unl (bfT rfl ?_)
  refine (@bfT _ _ _ _ _ (hp)) ?_
  refine (@bfT _ _ _ _ _ (hp)) ?_
  exact hk _ rfl
def foundR (r : Nat → Int32) (w o : Int32) : Nat → Int32 :=
  ua (ua (ua (ua r (22 + 6 * w + 3) (minI 9999 (rD r w 3 + 1))) (22 + 6 * w + 2) (minI 99 (rD (ua r (22 + 6 * w + 3) (minI 9999 (rD r w 3 + 1))) w 2 + growsV (rD r w 0)))) (22 + 6 * w + 1) (minI 99 (rD (ua (ua r (22 + 6 * w + 3) (minI 9999 (rD r w 3 + 1))) (22 + 6 * w + 2) (minI 99 (rD (ua r (22 + 6 * w + 3) (minI 9999 (rD r w 3 + 1))) w 2 + growsV (rD r w 0)))) w 1 + learnsV (rD r w 0)))) (22 + 6 * o + 4) (minI 9999 (rD (ua (ua (ua r (22 + 6 * w + 3) (minI 9999 (rD r w 3 + 1))) (22 + 6 * w + 2) (minI 99 (rD (ua r (22 + 6 * w + 3) (minI 9999 (rD r w 3 + 1))) w 2 + growsV (rD r w 0)))) (22 + 6 * w + 1) (minI 99 (rD (ua (ua r (22 + 6 * w + 3) (minI 9999 (rD r w 3 + 1))) (22 + 6 * w + 2) (minI 99 (rD (ua r (22 + 6 * w + 3) (minI 9999 (rD r w 3 + 1))) w 2 + growsV (rD r w 0)))) w 1 + learnsV (rD r w 0)))) o 4 + 1))
def settlesR (r : Nat → Int32) (a b : Int32) : Nat → Int32 :=
  if loserH (ra r 3) r a b < 0 then ua r 5 (minI 9999 (ra r 5 + 1)) else if loserH (ra r 3) r a b = a then foundR r (loserH (ra r 3) r a b) b else foundR r (loserH (ra r 3) r a b) a
theorem loserH_dI {h : Int32} {r : Nat → Int32} {a b : Int32} (ha : dI a) (hb : dI b) (h0 : ¬ loserH h r a b < 0) : dI (loserH h r a b) := by
  unfold loserH at h0 ⊢
  by_cases h1 : turnsH h r a b % 13 = 0
  · rw [if_pos h1] at h0; exact absurd (by decide) h0
  · rw [if_neg h1]
    by_cases h2 : turnsH h r a b % 2 = 0
    · rw [if_pos h2]
      by_cases h3 : pressesR r a - pressesR r b < 0
      · rw [if_pos h3]; exact ha
      · rw [if_neg h3]; exact hb
    · rw [if_neg h2]
      by_cases h3 : pressesR r a - pressesR r b < 0
      · rw [if_pos h3]; exact hb
      · rw [if_neg h3]; exact ha
set_option maxRecDepth 100000 in
theorem e_settles {μ : Mem} {k : Rtn} {X : Option Rz} {a b : Int32} (ha : dI a) (hb : dI b) (hk : ∀ μ', μ' = up1 μ 50 (settlesR (μ 50) a b) → k none μ' = X) : S_X5_settles [.ref 49, .int a, .int b] μ k = X := by
  refine unl (bfT rfl ?_)
  refine e_fallsFor ha hb ?_
  refine br (fun h0 => ?_) (fun h0 => ?_)
  · refine e_more (by decide) (fun μ1 e1 => ?_)
    refine hk _ ?_
    rw [e1, settlesR, if_pos h0]
  · have hw := loserH_dI ha hb h0
    refine e_grows hw ?_
    refine e_learns hw ?_
    refine e_more (dI_in hw f3) (fun μ1 e1 => ?_)
    subst e1
    refine e_more (dI_in hw f2) (fun μ2 e2 => ?_)
    subst e2
    refine e_more (dI_in hw f1) (fun μ3 e3 => ?_)
    subst e3
    refine br (fun h1 => ?_) (fun h1 => ?_)
    · refine e_more (dI_in hb f4) (fun μ4 e4 => ?_)
      refine hk _ ?_
      rw [e4, settlesR, if_neg h0, if_pos h1, up1_same, up1_same, up1_same]
      rfl
    · refine e_more (dI_in ha f4) (fun μ4 e4 => ?_)
      refine hk _ ?_
      rw [e4, settlesR, if_neg h0, if_neg h1, up1_same, up1_same, up1_same]
      rfl
def coolR : Nat → (Nat → Int32) → Nat → Int32
  | 0, r => r
  | d + 1, r => ua (coolR d r) (22 + 6 * nI d + 2) (maxI 0 (rD (coolR d r) (nI d) 2 - coolsV (rD (coolR d r) (nI d) 0)))
def dropsR1 (r : Nat → Int32) : Nat → Int32 := if foI r = 0 then settlesR r (LR r / 10) (LR r % 10) else r
def dropR (r : Nat → Int32) : Nat → Int32 := ua (coolR (ra r 1).toNatClampNeg (dropsR1 r)) 0 (minI 99999 (ra (coolR (ra r 1).toNatClampNeg (dropsR1 r)) 0 + 1))
theorem ixD_cl {d g : Nat} (hd : d < 8) (hg : g < 6) : ((22 : Int32) + 6 * nI d + nI g).toNatClampNeg = 22 + 6 * d + g := by
  rw [ixD, nI_cl (by omega)]
theorem ua_lo {r : Nat → Int32} {x f : Int32} {v : Int32} (hx : dI x) (hf : fI f) {j : Nat} (hj : j < 22) : ua r (22 + 6 * x + f) v j = r j := by
  obtain ⟨d, hd, rfl⟩ := hx
  obtain ⟨g, hg, rfl⟩ := hf
  unfold ua
  rw [ixD_cl hd hg]
  exact upf_ne _ _ (by omega)
theorem coolR_lo {r : Nat → Int32} (d : Nat) (hd : d ≤ 8) {j : Nat} (hj : j < 22) : coolR d r j = r j := by
  induction d with
  | zero => rfl
  | succ d ih =>
    unfold coolR
    rw [ua_lo ⟨d, by omega, rfl⟩ f2 hj]
    exact ih (by omega)
theorem foundR_lo {r : Nat → Int32} {w o : Int32} (hw : dI w) (ho : dI o) {j : Nat} (hj : j < 22) : foundR r w o j = r j := by
  unfold foundR
  rw [ua_lo ho f4 hj, ua_lo hw f1 hj, ua_lo hw f2 hj, ua_lo hw f3 hj]
theorem settlesR_lo {r : Nat → Int32} {a b : Int32} (ha : dI a) (hb : dI b) {j : Nat} (hj : j < 22) (h5 : ¬ j = 5) : settlesR r a b j = r j := by
  unfold settlesR
  split
  · exact upf_ne _ _ h5
  · rename_i h0
    split
    · exact foundR_lo (loserH_dI ha hb h0) hb hj
    · exact foundR_lo (loserH_dI ha hb h0) ha hj
theorem fo_two {r : Nat → Int32} (hG : G0 r) (h : foI r = 0) : dI (LR r / 10) ∧ dI (LR r % 10) ∧ ¬ LR r / 10 = LR r % 10 := by
  unfold foI at h
  by_cases g1 : LR r / 10 < 0
  · rw [if_pos g1] at h; exact absurd h (by decide)
  · rw [if_neg g1] at h
    by_cases g2 : ra r 1 - 1 < LR r / 10
    · rw [if_pos g2] at h; exact absurd h (by decide)
    · rw [if_neg g2] at h
      by_cases g3 : LR r % 10 < 0
      · rw [if_pos g3] at h; exact absurd h (by decide)
      · rw [if_neg g3] at h
        by_cases g4 : ra r 1 - 1 < LR r % 10
        · rw [if_pos g4] at h; exact absurd h (by decide)
        · rw [if_neg g4] at h
          by_cases g5 : LR r / 10 = LR r % 10
          · rw [if_pos g5] at h; exact absurd h (by decide)
          · exact ⟨hG.has g1 g2, hG.has g3 g4, g5⟩
theorem dropsR1_lo {r : Nat → Int32} (hG : G0 r) {j : Nat} (hj : j < 22) (h5 : ¬ j = 5) : dropsR1 r j = r j := by
  unfold dropsR1
  by_cases h : foI r = 0
  · rw [if_pos h]
    exact settlesR_lo (fo_two hG h).1 (fo_two hG h).2.1 hj h5
  · rw [if_neg h]
set_option maxRecDepth 100000 in
theorem drop_loop {k : Rtn} {X : Option Rz} {μ : Mem} {r : Nat → Int32} {n : Nat} (hn : n ≤ 8) (h1 : ra r 1 = nI n) (hk : ∀ μ', μ' = up1 μ 50 (ua (coolR n r) 0 (minI 99999 (ra (coolR n r) 0 + 1))) → k none μ' = X) :
    ∀ (m i f : Nat) (x : Int32) (ν : Mem), i + m = n → 40 * m + 40 ≤ f → x = nI i → ν = up1 μ 50 (coolR i r) → lockO (oILd 1 40) 0 (runK P_X5_drop f k) k [some (.ref 49), some (.int x)] [] ν = X := by
  intro m
  induction m with
  | zero =>
    intro i f x ν hi hf hx hν
    subst hx; subst hν
    obtain ⟨F, rfl⟩ : ∃ F, f = F + 40 := ⟨f - 40, by omega⟩
    have e : i = n := by omega
    subst e
    refine unO ?_
    have hc : ¬ nI i < ra (coolR i r) 1 := by
      have : ra (coolR i r) 1 = nI i := by
        show coolR i r 1 = nI i
        rw [coolR_lo i hn (by decide)]
        exact h1
      rw [this]
      exact nI_nlt (Nat.le_refl _) (by omega)
    refine brF hc ?_
    exact hk _ (up2_up1 μ 50 _ _ _)
  | succ m ih =>
    intro i f x ν hi hf hx hν
    subst hx; subst hν
    obtain ⟨F, rfl⟩ : ∃ F, f = F + 40 := ⟨f - 40, by omega⟩
    have hd : dI (nI i) := ⟨i, by omega, rfl⟩
    refine unO ?_
    have hc : nI i < ra (coolR i r) 1 := by
      have : ra (coolR i r) 1 = nI n := by
        show coolR i r 1 = nI n
        rw [coolR_lo i (by omega) (by decide)]
        exact h1
      rw [this]
      exact nI_lt (by omega) (by omega)
    refine brT hc ?_
    refine e_dIs hd f2 ?_
    refine e_cools hd ?_
    refine (@bfT _ _ _ _ _ (dI_in hd f2)) ?_
    exact ih (i + 1) _ _ _ (by omega) (by omega) (nI_succ i).symm (up2_up1 μ 50 _ _ _)
set_option maxRecDepth 100000 in
theorem e_drop {μ : Mem} {k : Rtn} {X : Option Rz} (hG : G0 (μ 50)) (hk : ∀ μ', μ' = up1 μ 50 (dropR (μ 50)) → k none μ' = X) : S_X5_drop [.ref 49] μ k = X := by
  have hG' := hG
  obtain ⟨-, n, hn, en⟩ := hG'
  have en2 : (ra (μ 50) 1).toNatClampNeg = n := by rw [en, nI_cl (by omega)]
  have h1 : ra (dropsR1 (μ 50)) 1 = nI n := by
    show dropsR1 (μ 50) 1 = nI n
    rw [dropsR1_lo hG (by decide) (by decide)]
    exact en
  unfold dropR at hk
  rw [en2] at hk
  refine unl (bfT rfl ?_)
  refine e_fallsOut hG ?_
  refine br (fun h0 => ?_) (fun h0 => ?_)
  · refine (@bfT _ _ _ _ _ (hG.ix)) ?_
    obtain ⟨ha, hb, -⟩ := fo_two hG h0
    refine e_settles ha hb (fun μ1 e1 => ?_)
    refine drop_loop (μ := μ) hn h1 hk n 0 _ _ _ (by omega) (fu (by omega) rfl) rfl ?_
    rw [e1]
    unfold dropsR1
    rw [if_pos h0]
    rfl
  · refine drop_loop (μ := μ) hn h1 hk n 0 _ _ _ (by omega) (fu (by omega) rfl) rfl ?_
    unfold dropsR1
    rw [if_neg h0]
    exact (up1_self μ 50).symm
