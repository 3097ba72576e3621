/-! write, load, judge -/
theorem cl4 {j : Nat} (hj : j < 4) : (nI j).toNatClampNeg = j := nI_cl (by omega)
theorem kdS {j : Nat} (hj : j < 4) : Nat.beq (kd (40 + (nI j).toNatClampNeg)) 2 = true := by
  rw [cl4 hj]
  rcases (by omega : j = 0 ∨ j = 1 ∨ j = 2 ∨ j = 3) with rfl | rfl | rfl | rfl <;> rfl
theorem rfN {j : Nat} (hj : j < 4) : rfOf (40 + (nI j).toNatClampNeg) 2 = 44 + j := by
  rw [cl4 hj]
  rcases (by omega : j = 0 ∨ j = 1 ∨ j = 2 ∨ j = 3) with rfl | rfl | rfl | rfl <;> rfl
theorem kdN {j : Nat} (hj : j < 4) : Nat.beq (kd (rfOf (40 + (nI j).toNatClampNeg) 2)) 6 = true := by
  rw [rfN hj]
  rcases (by omega : j = 0 ∨ j = 1 ∨ j = 2 ∨ j = 3) with rfl | rfl | rfl | rfl <;> rfl
theorem lenN {j : Nat} (hj : j < 4) : lenOf (rfOf (40 + (nI j).toNatClampNeg) 2) = 40 := by
  rw [rfN hj]
  rcases (by omega : j = 0 ∨ j = 1 ∨ j = 2 ∨ j = 3) with rfl | rfl | rfl | rfl <;> rfl
theorem inN {j i : Nat} (hj : j < 4) (hi : i < 40) : inB (nI i) (lenOf (rfOf (40 + (nI j).toNatClampNeg) 2)) = true := by
  rw [lenN hj]
  exact inB_nI hi (by decide)
theorem shF {μ : Mem} (hI : I4 μ) {j : Nat} (hj : j < 4) : μ (40 + (nI j).toNatClampNeg) 0 = μ 56 (nI j).toNatClampNeg ∧ μ (40 + (nI j).toNatClampNeg) 1 = μ 57 (nI j).toNatClampNeg ∧ VB (μ 57 (nI j).toNatClampNeg) 40 ∧ ∀ i, i < 40 → μ (rfOf (40 + (nI j).toNatClampNeg) 2) i = μ 58 (40 * j + i) := by
  rw [rfN hj, cl4 hj]
  obtain ⟨a1, a2, -, a4, a5⟩ := hI j hj
  exact ⟨a1, a2, a4, a5⟩
theorem toN40 {x y : Int32} (h : ¬ x < 0) (hy : VB y 40) (h2 : ¬ y - 1 < x) : ∃ d : Nat, d < 40 ∧ x = nI d := by
  obtain ⟨n, hn, rfl⟩ := hy
  obtain ⟨j, hj, e⟩ := nI_of h
  subst e
  refine ⟨j, ?_, rfl⟩
  rcases Nat.lt_or_ge j 40 with q | q
  · exact q
  · exfalso
    apply h2
    have e1 : (nI n - 1).toInt = (n : Int) - 1 := by
      have := pk_sub_toInt (a := n) (b := 1) (by omega) (by omega)
      exact this
    rw [Int32.lt_iff_toInt_lt, e1, nI_toInt hj]
    omega
set_option maxRecDepth 100000 in
theorem x_sput {μ : Mem} {k : Rtn} {X : Option Rz} {j i : Nat} {v : Int32} (hj : j < 4) (hi : i < 40) (hk : ∀ μ', μ' = up2 μ (44 + j) i (cutV v (μ (40 + (nI j).toNatClampNeg) 0)) → k none μ' = X) : S_X2_put [.ref (40 + (nI j).toNatClampNeg), .int (nI i), .int v] μ k = X := by
  unfold cutV at hk
  refine unl (bfT rfl ?_)
  refine (@bfT _ _ _ _ _ (kdS hj)) ?_
  by_cases h8 : μ (40 + (nI j).toNatClampNeg) 0 = 8
  · rw [if_pos h8] at hk
    refine brT h8 ?_
    refine (@bfT _ _ _ _ _ (kdS hj)) ?_
    refine (@bfT _ _ _ _ _ (kdN hj)) ?_
    refine (@bfT _ _ _ _ _ (inN hj hi)) ?_
    refine hk _ ?_
    rw [rfN hj, nI_cl (show i < 100000 by omega)]
  · rw [if_neg h8] at hk
    refine brF h8 ?_
    by_cases h6 : μ (40 + (nI j).toNatClampNeg) 0 = 16
    · rw [if_pos h6] at hk
      refine brT h6 ?_
      refine (@bfT _ _ _ _ _ (kdS hj)) ?_
      refine (@bfT _ _ _ _ _ (kdN hj)) ?_
      refine (@bfT _ _ _ _ _ (inN hj hi)) ?_
      refine hk _ ?_
      rw [rfN hj, nI_cl (show i < 100000 by omega)]
    · rw [if_neg h6] at hk
      refine brF h6 ?_
      refine (@bfT _ _ _ _ _ (kdS hj)) ?_
      refine (@bfT _ _ _ _ _ (kdN hj)) ?_
      refine (@bfT _ _ _ _ _ (inN hj hi)) ?_
      refine hk _ ?_
      rw [rfN hj, nI_cl (show i < 100000 by omega)]
set_option maxRecDepth 100000 in
theorem T_write {μ : Mem} {k1 : Rtn} {K : Int32 → Rtn} {X : Option Rz} (hI : Inv μ) {s i v : Int32} (hm : ∀ w μ1, k1 (some (.int w)) μ1 = S_X5_write [.ref 49, .int s, .int i, .int v] μ1 (K w)) (hK : ∀ v w μ2, v = w → Inv μ2 → K v (some (.int w)) μ2 = X) : S_X4_write [.ref 0, .int s, .int i, .int v] μ k1 = X := by
  by_cases s1 : s < 0
  · refine unl (bfT rfl ?_)
    repeat' (first | refine brT (by assumption) ?_ | refine brF (by assumption) ?_ | refine br (fun q => ?_) (fun q => ?_))
    refine x_tell0 ?_; refine (hm _ _).trans ?_; refine unl (bfT rfl ?_); (repeat' (first | refine brF c10 ?_ | refine brT c00 ?_ | refine brF c01 ?_ | refine brT c11 ?_ | refine brT (by assumption) ?_ | refine brF (by assumption) ?_)); refine e_find0 ?_; exact hK _ _ _ rfl (Inv_tell hI (by decide))
  by_cases s2 : 3 < s
  · refine unl (bfT rfl ?_)
    repeat' (first | refine brT (by assumption) ?_ | refine brF (by assumption) ?_ | refine br (fun q => ?_) (fun q => ?_))
    refine x_tell0 ?_; refine (hm _ _).trans ?_; refine unl (bfT rfl ?_); (repeat' (first | refine brF c10 ?_ | refine brT c00 ?_ | refine brF c01 ?_ | refine brT c11 ?_ | refine brT (by assumption) ?_ | refine brF (by assumption) ?_)); refine e_find0 ?_; exact hK _ _ _ rfl (Inv_tell hI (by decide))
  obtain ⟨j, hj3, rfl⟩ := nlt_VB (n := 3) (x := s) (by decide) s1 s2
  have hj : j < 4 := by omega
  have inS : inB (nI j) 4 = true := inB_nI hj (by decide)
  obtain ⟨a1, a2, a4, a5⟩ := shF hI.2.2.2.1 hj
  by_cases w0 : μ 56 (nI j).toNatClampNeg = 0
  · have w1 : μ (40 + (nI j).toNatClampNeg) 0 = 0 := a1.trans w0
    refine unl (bfT rfl ?_)
    repeat' (first | refine brF c10 ?_ | refine brT c00 ?_ | refine brF c01 ?_ | refine brT c11 ?_ | refine brT (by assumption) ?_ | refine brF (by assumption) ?_)
    refine (@bfT _ _ _ _ _ (inS)) ?_
    refine (@bfT _ _ _ _ _ (kdS hj)) ?_
    refine (@bfT _ _ _ _ _ (kdS hj)) ?_
    repeat' (first | refine brF c10 ?_ | refine brT c00 ?_ | refine brF c01 ?_ | refine brT c11 ?_ | refine brT (by assumption) ?_ | refine brF (by assumption) ?_)
    refine x_tell5 ?_
    refine (hm _ _).trans ?_
    refine unl (bfT rfl ?_)
    repeat' (first | refine brF c10 ?_ | refine brT c00 ?_ | refine brF c01 ?_ | refine brT c11 ?_ | refine brT (by assumption) ?_ | refine brF (by assumption) ?_)
    refine (@bfT _ _ _ _ _ (inS)) ?_
    refine brT w0 ?_
    refine e_find5 ?_
    exact hK _ _ _ rfl (Inv_tell hI (by decide))
  have w1 : ¬ μ (40 + (nI j).toNatClampNeg) 0 = 0 := fun q => w0 (a1.symm.trans q)
  by_cases i1 : i < 0
  · refine unl (bfT rfl ?_)
    repeat' (first | refine brF c10 ?_ | refine brT c00 ?_ | refine brF c01 ?_ | refine brT c11 ?_ | refine brT (by assumption) ?_ | refine brF (by assumption) ?_)
    refine (@bfT _ _ _ _ _ (inS)) ?_
    refine (@bfT _ _ _ _ _ (kdS hj)) ?_
    refine (@bfT _ _ _ _ _ (kdS hj)) ?_
    repeat' (first | refine brF c10 ?_ | refine brT c00 ?_ | refine brF c01 ?_ | refine brT c11 ?_ | refine brT (by assumption) ?_ | refine brF (by assumption) ?_)
    refine (@bfT _ _ _ _ _ (inS)) ?_
    refine (@bfT _ _ _ _ _ (kdS hj)) ?_
    repeat' (first | refine brF c10 ?_ | refine brT c00 ?_ | refine brF c01 ?_ | refine brT c11 ?_ | refine brT (by assumption) ?_ | refine brF (by assumption) ?_)
    refine x_tell0 ?_
    refine (hm _ _).trans ?_
    refine unl (bfT rfl ?_)
    repeat' (first | refine brF c10 ?_ | refine brT c00 ?_ | refine brF c01 ?_ | refine brT c11 ?_ | refine brT (by assumption) ?_ | refine brF (by assumption) ?_)
    refine (@bfT _ _ _ _ _ (inS)) ?_
    refine brF w0 ?_
    refine (@bfT _ _ _ _ _ (inS)) ?_
    repeat' (first | refine brF c10 ?_ | refine brT c00 ?_ | refine brF c01 ?_ | refine brT c11 ?_ | refine brT (by assumption) ?_ | refine brF (by assumption) ?_)
    refine e_find0 ?_
    exact hK _ _ _ rfl (Inv_tell hI (by decide))
  by_cases i2 : μ 57 (nI j).toNatClampNeg - 1 < i
  · have i3 : μ (40 + (nI j).toNatClampNeg) 1 - 1 < i := by rw [a2]; exact i2
    refine unl (bfT rfl ?_)
    repeat' (first | refine brF c10 ?_ | refine brT c00 ?_ | refine brF c01 ?_ | refine brT c11 ?_ | refine brT (by assumption) ?_ | refine brF (by assumption) ?_)
    refine (@bfT _ _ _ _ _ (inS)) ?_
    refine (@bfT _ _ _ _ _ (kdS hj)) ?_
    refine (@bfT _ _ _ _ _ (kdS hj)) ?_
    repeat' (first | refine brF c10 ?_ | refine brT c00 ?_ | refine brF c01 ?_ | refine brT c11 ?_ | refine brT (by assumption) ?_ | refine brF (by assumption) ?_)
    refine (@bfT _ _ _ _ _ (inS)) ?_
    refine (@bfT _ _ _ _ _ (kdS hj)) ?_
    repeat' (first | refine brF c10 ?_ | refine brT c00 ?_ | refine brF c01 ?_ | refine brT c11 ?_ | refine brT (by assumption) ?_ | refine brF (by assumption) ?_)
    refine x_tell0 ?_
    refine (hm _ _).trans ?_
    refine unl (bfT rfl ?_)
    repeat' (first | refine brF c10 ?_ | refine brT c00 ?_ | refine brF c01 ?_ | refine brT c11 ?_ | refine brT (by assumption) ?_ | refine brF (by assumption) ?_)
    refine (@bfT _ _ _ _ _ (inS)) ?_
    refine brF w0 ?_
    refine (@bfT _ _ _ _ _ (inS)) ?_
    repeat' (first | refine brF c10 ?_ | refine brT c00 ?_ | refine brF c01 ?_ | refine brT c11 ?_ | refine brT (by assumption) ?_ | refine brF (by assumption) ?_)
    refine e_find0 ?_
    exact hK _ _ _ rfl (Inv_tell hI (by decide))
  have i3 : ¬ μ (40 + (nI j).toNatClampNeg) 1 - 1 < i := by rw [a2]; exact i2
  obtain ⟨p, hp, rfl⟩ := toN40 i1 a4 i2
  have fin : ∀ (ν μ1 : Mem) (z : Int32), z = cutV v (μ 56 (nI j).toNatClampNeg) → μ1 = up2 μ (44 + j) p (cutV v (μ (40 + (nI j).toNatClampNeg) 0)) → ν = up2 μ1 58 ((40 : Int32) * nI j + nI p).toNatClampNeg z → Inv ν := by
    intro ν μ1 z ez e1 e2
    rw [cl40 hj hp] at e2
    subst e2
    rw [e1, a1, ez]
    refine Inv_write (j := j) (i := p) (v := cutV v (μ 56 (nI j).toNatClampNeg)) hI hj hp ?_ ?_ (fun x q1 q2 => ?_)
    · rw [up2_ne _ _ (by omega), up2_at]
    · rw [up2_at, up2_ne _ _ (by omega)]
    · rw [up2_ne _ _ q2, up2_ne _ _ q1]
  refine unl (bfT rfl ?_)
  repeat' (first | refine brF c10 ?_ | refine brT c00 ?_ | refine brF c01 ?_ | refine brT c11 ?_ | refine brT (by assumption) ?_ | refine brF (by assumption) ?_)
  refine (@bfT _ _ _ _ _ (inS)) ?_
  refine (@bfT _ _ _ _ _ (kdS hj)) ?_
  refine (@bfT _ _ _ _ _ (kdS hj)) ?_
  repeat' (first | refine brF c10 ?_ | refine brT c00 ?_ | refine brF c01 ?_ | refine brT c11 ?_ | refine brT (by assumption) ?_ | refine brF (by assumption) ?_)
  refine (@bfT _ _ _ _ _ (inS)) ?_
  refine (@bfT _ _ _ _ _ (kdS hj)) ?_
  repeat' (first | refine brF c10 ?_ | refine brT c00 ?_ | refine brF c01 ?_ | refine brT c11 ?_ | refine brT (by assumption) ?_ | refine brF (by assumption) ?_)
  refine (@bfT _ _ _ _ _ (inS)) ?_
  refine (@bfT _ _ _ _ _ (kdS hj)) ?_
  refine x_sput hj hp (fun μ1 e1 => ?_)
  refine (hm _ _).trans ?_
  have q56 : μ1 56 = μ 56 := by rw [e1]; exact up2_ne _ _ (by omega)
  have q57 : μ1 57 = μ 57 := by rw [e1]; exact up2_ne _ _ (by omega)
  have w2 : ¬ μ1 56 (nI j).toNatClampNeg = 0 := by rw [q56]; exact w0
  have i4 : ¬ μ1 57 (nI j).toNatClampNeg - 1 < nI p := by rw [q57]; exact i2
  by_cases w8 : μ1 56 (nI j).toNatClampNeg = 8
  · refine unl (bfT rfl ?_)
    repeat' (first | refine brF c10 ?_ | refine brT c00 ?_ | refine brF c01 ?_ | refine brT c11 ?_ | refine brT (by assumption) ?_ | refine brF (by assumption) ?_)
    refine (@bfT _ _ _ _ _ (inS)) ?_
    refine brF w2 ?_
    refine (@bfT _ _ _ _ _ (inS)) ?_
    repeat' (first | refine brF c10 ?_ | refine brT c00 ?_ | refine brF c01 ?_ | refine brT c11 ?_ | refine brT (by assumption) ?_ | refine brF (by assumption) ?_)
    refine (@bfT _ _ _ _ _ (inS)) ?_
    refine brT w8 ?_
    refine (@bfT _ _ _ _ _ (in40 hj hp)) ?_
    refine hK _ _ _ rfl (fin _ _ _ ?_ e1 rfl)
    rw [← q56]
    unfold cutV
    rw [if_pos w8]
  by_cases w6 : μ1 56 (nI j).toNatClampNeg = 16
  · refine unl (bfT rfl ?_)
    repeat' (first | refine brF c10 ?_ | refine brT c00 ?_ | refine brF c01 ?_ | refine brT c11 ?_ | refine brT (by assumption) ?_ | refine brF (by assumption) ?_)
    refine (@bfT _ _ _ _ _ (inS)) ?_
    refine brF w2 ?_
    refine (@bfT _ _ _ _ _ (inS)) ?_
    repeat' (first | refine brF c10 ?_ | refine brT c00 ?_ | refine brF c01 ?_ | refine brT c11 ?_ | refine brT (by assumption) ?_ | refine brF (by assumption) ?_)
    refine (@bfT _ _ _ _ _ (inS)) ?_
    refine brF w8 ?_
    refine brT w6 ?_
    refine (@bfT _ _ _ _ _ (in40 hj hp)) ?_
    refine hK _ _ _ rfl (fin _ _ _ ?_ e1 rfl)
    rw [← q56]
    unfold cutV
    rw [if_neg w8, if_pos w6]
  · refine unl (bfT rfl ?_)
    repeat' (first | refine brF c10 ?_ | refine brT c00 ?_ | refine brF c01 ?_ | refine brT c11 ?_ | refine brT (by assumption) ?_ | refine brF (by assumption) ?_)
    refine (@bfT _ _ _ _ _ (inS)) ?_
    refine brF w2 ?_
    refine (@bfT _ _ _ _ _ (inS)) ?_
    repeat' (first | refine brF c10 ?_ | refine brT c00 ?_ | refine brF c01 ?_ | refine brT c11 ?_ | refine brT (by assumption) ?_ | refine brF (by assumption) ?_)
    refine (@bfT _ _ _ _ _ (inS)) ?_
    refine brF w8 ?_
    refine brF w6 ?_
    refine (@bfT _ _ _ _ _ (in40 hj hp)) ?_
    refine hK _ _ _ rfl (fin _ _ _ ?_ e1 rfl)
    rw [← q56]
    unfold cutV
    rw [if_neg w8, if_neg w6]
def fsP (p : Nat → Bool) : Nat → Nat → Nat
  | 0, i => i
  | m + 1, i => bif p i then i else fsP p m (i + 1)
theorem fsP_t {p : Nat → Bool} {m i : Nat} (h : p i = true) : fsP p m i = i := by
  cases m
  · rfl
  · unfold fsP; rw [h]; rfl
theorem fsP_s {p : Nat → Bool} {m i : Nat} (h : p i = false) : fsP p (m + 1) i = fsP p m (i + 1) := by
  show (bif p i then i else fsP p m (i + 1)) = _
  rw [h]; rfl
theorem fsP_le {p : Nat → Bool} : ∀ m i, fsP p m i ≤ i + m := by
  intro m
  induction m with
  | zero => intro i; exact Nat.le_refl _
  | succ m ih =>
    intro i
    unfold fsP
    cases p i
    · have := ih (i + 1); show fsP p m (i + 1) ≤ _; omega
    · show i ≤ _; omega
def lR (r F : Nat → Int32) : Nat → Nat → Int32
  | 0 => r
  | i + 1 => upf (lR r F i) (22 + 6 * i + 1) (F i)
def ldB (r F : Nat → Int32) (i : Nat) : Bool := !(decide (i < (r 1).toNatClampNeg) && (!(decide (F i < 0)) && !(decide (99 < F i))))
theorem lR_1 (r F : Nat → Int32) : ∀ i, lR r F i 1 = r 1 := by
  intro i
  induction i with
  | zero => rfl
  | succ i ih => unfold lR; rw [upf_ne _ _ (by omega)]; exact ih
theorem G1.ltN {r : Nat → Int32} (h : G1 r) {i : Nat} (hi : i ≤ 40) : (nI i < r 1 ↔ i < (r 1).toNatClampNeg) := by
  have h8 := h.n8
  rw [h.n1, nI_cl (by omega)]
  constructor
  · intro q
    rcases Nat.lt_or_ge i (r 1).toNatClampNeg with a | a
    · exact a
    · exact absurd q (nI_nlt a (by omega))
  · intro q; exact nI_lt q (by omega)
theorem G1.ltM {r : Nat → Int32} (h : G1 r) {i : Nat} (hi : i ≤ 40) : (¬ r 1 - 1 < nI i ↔ i < (r 1).toNatClampNeg) := by
  rw [← h.ltN hi]
  exact (h.lt (nI i)).symm
theorem lt_l {a b c : Int32} (h : a = b) (q : b < c) : a < c := by rw [h]; exact q
theorem nlt_l {a b c : Int32} (h : a = b) (q : ¬ b < c) : ¬ a < c := by rw [h]; exact q
theorem lt_r {a b c : Int32} (h : a = b) (q : c < b) : c < a := by rw [h]; exact q
theorem nlt_r {a b c : Int32} (h : a = b) (q : ¬ c < b) : ¬ c < a := by rw [h]; exact q
set_option maxRecDepth 100000 in
theorem loadX_loop {k : Rtn} {X : Option Rz} {μ : Mem} {r F : Nat → Int32} {j n : Nat} {g : Int32} (hj : j < 4) (hn : n ≤ 40) (hG0 : G1 r) (e1 : μ (40 + (nI j).toNatClampNeg) 1 = nI n) (hF : ∀ i, i < 40 → μ (rfOf (40 + (nI j).toNatClampNeg) 2) i = F i) (hk : ∀ ν, Rep ν 1 (lR r F (fsP (ldB r F) n 0)) → G1 (lR r F (fsP (ldB r F) n 0)) → Fr 1 μ ν → k (some (.int (nI (fsP (ldB r F) n 0)))) ν = X) :
    ∀ (m i f : Nat) (x : Int32) (ν : Mem), i + m = n → 80 * m + 80 ≤ f → x = nI i → Rep ν 1 (lR r F i) → G1 (lR r F i) → Fr 1 μ ν → fsP (ldB r F) n 0 = fsP (ldB r F) m i → lockO (oILd 4 28) 0 (runK P_X4_load f k) k [some (.ref 0), some (.int (nI j)), some (.int g), some (.ref (40 + (nI j).toNatClampNeg)), some (.int x)] [] ν = X := by
  have c40 : ¬ inC 1 (40 + (nI j).toNatClampNeg) := by unfold inC; omega
  have c44 : ¬ inC 1 (rfOf (40 + (nI j).toNatClampNeg) 2) := by rw [rfN hj]; unfold inC; omega
  intro m
  induction m with
  | zero =>
    intro i f x ν hi hf hx hR hG hFr hs
    subst hx
    obtain ⟨f2, rfl⟩ : ∃ f2, f = f2 + 80 := ⟨f - 80, by omega⟩
    have hc : ¬ nI i < ν (40 + (nI j).toNatClampNeg) 1 := by
      rw [hFr _ c40, e1]
      exact nI_nlt (by omega) (by omega)
    refine unO ?_
    refine (@bfT _ _ _ _ _ (kdS hj)) ?_
    refine brF hc ?_
    have es : fsP (ldB r F) n 0 = i := hs
    rw [es] at hk
    exact hk ν hR hG hFr
  | succ m ih =>
    intro i f x ν hi hf hx hR hG hFr hs
    subst hx
    obtain ⟨f2, rfl⟩ : ∃ f2, f = f2 + 80 := ⟨f - 80, by omega⟩
    have hc : nI i < ν (40 + (nI j).toNatClampNeg) 1 := by
      rw [hFr _ c40, e1]
      exact nI_lt (by omega) (by omega)
    have h0 : ¬ nI i < 0 := nI_nl (by omega)
    have e7 : ν 1 7 = r 1 := hR.1.2.1.trans (lR_1 r F i)
    refine unO ?_
    refine (@bfT _ _ _ _ _ (kdS hj)) ?_
    refine brT hc ?_
    refine brF h0 ?_
    have stop : ldB r F i = true → k (some (.int (nI i))) ν = X := by
      intro q
      have es : fsP (ldB r F) n 0 = i := hs.trans (fsP_t q)
      rw [es] at hk
      exact hk ν hR hG hFr
    by_cases hN : i < (r 1).toNatClampNeg
    · have h8 := hG0.n8
      have hx : dI (nI i) := ⟨i, by omega, rfl⟩
      have c7 : nI i < ν 1 7 := by rw [e7]; exact (hG0.ltN (by omega)).mpr hN
      have eF : ν (rfOf (40 + (nI j).toNatClampNeg) 2) (nI i).toNatClampNeg = F i := by
        rw [nI_cl (show i < 100000 by omega), hFr _ c44]
        exact hF i (by omega)
      refine brT c7 ?_
      refine (@bfT _ _ _ _ _ (kdS hj)) ?_
      refine (@bfT _ _ _ _ _ (kdN hj)) ?_
      refine (@bfT _ _ _ _ _ (inN hj (show i < 40 by omega))) ?_
      by_cases q1 : F i < 0
      · refine brT (lt_l eF q1) ?_
        exact stop (by simp [ldB, q1])
      · refine brF (nlt_l eF q1) ?_
        by_cases q2 : 99 < F i
        · refine brT (lt_r eF q2) ?_
          exact stop (by simp [ldB, q2])
        · refine brF (nlt_r eF q2) ?_
          refine (@bfT _ _ _ _ _ (in8 hx)) ?_
          refine (@bfT _ _ _ _ _ (kdS hj)) ?_
          refine (@bfT _ _ _ _ _ (kdN hj)) ?_
          refine (@bfT _ _ _ _ _ (inN hj (show i < 40 by omega))) ?_
          refine (@bfT _ _ _ _ _ (kdq_1 hx)) ?_
          have hd : i < (lR r F i 1).toNatClampNeg := by rw [lR_1]; exact hN
          have hB : ldB r F i = false := by simp [ldB, q1, q2, hN]
          refine ih (i + 1) _ _ _ (by omega) (by omega) (nI_succ i).symm ?_ ?_ ?_ (hs.trans (fsP_s hB))
          · show Rep (up2 ν (13 + (nI i).toNatClampNeg) 1 (ν (rfOf (40 + (nI j).toNatClampNeg) 2) (nI i).toNatClampNeg)) 1 (upf (lR r F i) (22 + 6 * i + 1) (F i))
            rw [eF, nI_cl (by omega)]
            exact rep_put (c := 1) ⟨by decide, by decide⟩ hR hd (by decide)
          · exact G1_put hG hd (by decide) (nf rfl) (fun _ => nlt_VB (by decide) q1 q2) (nf rfl) (nf rfl) (nf rfl)
          · refine hFr.tr (Fr.up ?_)
            show inC 1 (13 + (nI i).toNatClampNeg)
            rw [nI_cl (by omega)]
            exact inC_d (c := 1) (by omega)
    · have c7 : ¬ nI i < ν 1 7 := by rw [e7]; exact fun q => hN ((hG0.ltN (by omega)).mp q)
      refine brF c7 ?_
      exact stop (by simp [ldB, hN])
set_option maxRecDepth 100000 in
theorem loadM_loop {k : Rtn} {X : Option Rz} {μ : Mem} {j n : Nat} {F : Nat → Int32} (hj : j < 4) (hn : n ≤ 40) (hG : G1 (μ 50)) (e1 : μ 57 (nI j).toNatClampNeg = nI n) (hF : ∀ i, i < 40 → μ 58 (40 * j + i) = F i) (hk : ∀ ν, ν = up1 μ 50 (lR (μ 50) F (fsP (ldB (μ 50) F) n 0)) → k (some (.int (nI (fsP (ldB (μ 50) F) n 0)))) ν = X) :
    ∀ (m i f : Nat) (x : Int32) (ν : Mem), i + m = n → 80 * m + 80 ≤ f → x = nI i → ν = up1 μ 50 (lR (μ 50) F i) → fsP (ldB (μ 50) F) n 0 = fsP (ldB (μ 50) F) m i → lockO (oILd 2 23) 0 (runK P_X5_load f k) k [some (.ref 49), some (.int (nI j)), some (.int x)] [] ν = X := by
  have inS : inB (nI j) 4 = true := inB_nI hj (by decide)
  intro m
  induction m with
  | zero =>
    intro i f x ν hi hf hx hν hs
    subst hx; subst hν
    obtain ⟨f2, rfl⟩ : ∃ f2, f = f2 + 80 := ⟨f - 80, by omega⟩
    have hc : ¬ nI i < μ 57 (nI j).toNatClampNeg := by
      rw [e1]
      exact nI_nlt (by omega) (by omega)
    refine unO ?_
    refine (@bfT _ _ _ _ _ (inS)) ?_
    refine brF hc ?_
    have es : fsP (ldB (μ 50) F) n 0 = i := hs
    rw [es] at hk
    exact hk _ rfl
  | succ m ih =>
    intro i f x ν hi hf hx hν hs
    subst hx; subst hν
    obtain ⟨f2, rfl⟩ : ∃ f2, f = f2 + 80 := ⟨f - 80, by omega⟩
    have hc : nI i < μ 57 (nI j).toNatClampNeg := by
      rw [e1]
      exact nI_lt (by omega) (by omega)
    have h0 : ¬ nI i < 0 := nI_nl (by omega)
    have e7 : lR (μ 50) F i 1 = μ 50 1 := lR_1 _ F i
    refine unO ?_
    refine (@bfT _ _ _ _ _ (inS)) ?_
    refine brT hc ?_
    refine brF h0 ?_
    have stop : ldB (μ 50) F i = true → k (some (.int (nI i))) (up1 μ 50 (lR (μ 50) F i)) = X := by
      intro q
      have es : fsP (ldB (μ 50) F) n 0 = i := hs.trans (fsP_t q)
      rw [es] at hk
      exact hk _ rfl
    by_cases hN : i < (μ 50 1).toNatClampNeg
    · have h8 := hG.n8
      have hx : dI (nI i) := ⟨i, by omega, rfl⟩
      have c7 : ¬ lR (μ 50) F i 1 - 1 < nI i := by rw [e7]; exact (hG.ltM (by omega)).mpr hN
      have eF : μ 58 ((40 : Int32) * nI j + nI i).toNatClampNeg = F i := by
        rw [cl40 hj (by omega)]
        exact hF i (by omega)
      refine brF c7 ?_
      refine (@bfT _ _ _ _ _ (in40 hj (show i < 40 by omega))) ?_
      by_cases q1 : F i < 0
      · refine brT (lt_l eF q1) ?_
        exact stop (by simp [ldB, q1])
      · refine brF (nlt_l eF q1) ?_
        by_cases q2 : 99 < F i
        · refine brT (lt_r eF q2) ?_
          exact stop (by simp [ldB, q2])
        · refine brF (nlt_r eF q2) ?_
          refine (@bfT _ _ _ _ _ (in40 hj (show i < 40 by omega))) ?_
          refine (@bfT _ _ _ _ _ (dI_in hx f1)) ?_
          have hB : ldB (μ 50) F i = false := by simp [ldB, q1, q2, hN]
          refine ih (i + 1) _ _ _ (by omega) (by omega) (nI_succ i).symm ?_ (hs.trans (fsP_s hB))
          refine (up2_up1 μ 50 _ _ _).trans ?_
          show up1 μ 50 (upf (lR (μ 50) F i) ((22 : Int32) + 6 * nI i + nI 1).toNatClampNeg (μ 58 ((40 : Int32) * nI j + nI i).toNatClampNeg)) = up1 μ 50 (upf (lR (μ 50) F i) (22 + 6 * i + 1) (F i))
          rw [eF, ixD_cl (by omega) (by decide)]
    · have c7 : lR (μ 50) F i 1 - 1 < nI i := by rw [e7]; exact Classical.byContradiction (fun q => hN ((hG.ltM (by omega)).mp q))
      refine brT c7 ?_
      exact stop (by simp [ldB, hN])
set_option maxRecDepth 100000 in
theorem T_load {μ : Mem} {k1 : Rtn} {K : Int32 → Rtn} {X : Option Rz} (hI : Inv μ) {s : Int32} (hm : ∀ w μ1, k1 (some (.int w)) μ1 = S_X5_load [.ref 49, .int s] μ1 (K w)) (hK : ∀ v w μ2, v = w → Inv μ2 → K v (some (.int w)) μ2 = X) : S_X4_load [.ref 0, .int s] μ k1 = X := by
  by_cases s1 : s < 0
  · refine unl (bfT rfl ?_)
    repeat' (first | refine brT (by assumption) ?_ | refine brF (by assumption) ?_ | refine br (fun q => ?_) (fun q => ?_))
    refine x_tell0 ?_; refine (hm _ _).trans ?_; refine unl (bfT rfl ?_); (repeat' (first | refine brF c10 ?_ | refine brT c00 ?_ | refine brF c01 ?_ | refine brT c11 ?_ | refine brT (by assumption) ?_ | refine brF (by assumption) ?_)); refine e_find0 ?_; exact hK _ _ _ rfl (Inv_tell hI (by decide))
  by_cases s2 : 3 < s
  · refine unl (bfT rfl ?_)
    repeat' (first | refine brT (by assumption) ?_ | refine brF (by assumption) ?_ | refine br (fun q => ?_) (fun q => ?_))
    refine x_tell0 ?_; refine (hm _ _).trans ?_; refine unl (bfT rfl ?_); (repeat' (first | refine brF c10 ?_ | refine brT c00 ?_ | refine brF c01 ?_ | refine brT c11 ?_ | refine brT (by assumption) ?_ | refine brF (by assumption) ?_)); refine e_find0 ?_; exact hK _ _ _ rfl (Inv_tell hI (by decide))
  obtain ⟨j, hj3, rfl⟩ := nlt_VB (n := 3) (x := s) (by decide) s1 s2
  have hj : j < 4 := by omega
  have inS : inB (nI j) 4 = true := inB_nI hj (by decide)
  obtain ⟨a1, a2, ⟨n, hn, a4⟩, a5⟩ := shF hI.2.2.2.1 hj
  by_cases w0 : μ 56 (nI j).toNatClampNeg = 0
  · have w1 : μ (40 + (nI j).toNatClampNeg) 0 = 0 := a1.trans w0
    refine unl (bfT rfl ?_)
    repeat' (first | refine brF c10 ?_ | refine brT c00 ?_ | refine brF c01 ?_ | refine brT c11 ?_ | refine brT (by assumption) ?_ | refine brF (by assumption) ?_)
    refine (@bfT _ _ _ _ _ (inS)) ?_
    refine (@bfT _ _ _ _ _ (kdS hj)) ?_
    refine (@bfT _ _ _ _ _ (kdS hj)) ?_
    repeat' (first | refine brF c10 ?_ | refine brT c00 ?_ | refine brF c01 ?_ | refine brT c11 ?_ | refine brT (by assumption) ?_ | refine brF (by assumption) ?_)
    refine x_tell5 ?_
    refine (hm _ _).trans ?_
    refine unl (bfT rfl ?_)
    repeat' (first | refine brF c10 ?_ | refine brT c00 ?_ | refine brF c01 ?_ | refine brT c11 ?_ | refine brT (by assumption) ?_ | refine brF (by assumption) ?_)
    refine (@bfT _ _ _ _ _ (inS)) ?_
    refine brT w0 ?_
    repeat' (first | refine brF c10 ?_ | refine brT c00 ?_ | refine brF c01 ?_ | refine brT c11 ?_ | refine brT (by assumption) ?_ | refine brF (by assumption) ?_)
    refine (@bfT _ _ _ _ _ (inS)) ?_
    refine brT w0 ?_
    refine e_find5 ?_
    exact hK _ _ _ rfl (Inv_tell hI (by decide))
  have w1 : ¬ μ (40 + (nI j).toNatClampNeg) 0 = 0 := fun q => w0 (a1.symm.trans q)
  refine unl (bfT rfl ?_)
  repeat' (first | refine brF c10 ?_ | refine brT c00 ?_ | refine brF c01 ?_ | refine brT c11 ?_ | refine brT (by assumption) ?_ | refine brF (by assumption) ?_)
  refine (@bfT _ _ _ _ _ (inS)) ?_
  refine (@bfT _ _ _ _ _ (kdS hj)) ?_
  refine (@bfT _ _ _ _ _ (kdS hj)) ?_
  repeat' (first | refine brF c10 ?_ | refine brT c00 ?_ | refine brF c01 ?_ | refine brT c11 ?_ | refine brT (by assumption) ?_ | refine brF (by assumption) ?_)
  refine (@bfT _ _ _ _ _ (inS)) ?_
  refine loadX_loop (F := fun i => μ 58 (40 * j + i)) hj hn hI.1.2 (a2.trans a4) a5 (fun ν rv gv fv => ?_) n 0 _ _ _ (by omega) (Nat.le_trans (show _ ≤ 3280 by omega) (Nat.le_of_ble_eq_true rfl)) rfl hI.1.1 hI.1.2 Fr.rf rfl
  refine (hm _ _).trans ?_
  have q50 : ν 50 = μ 50 := fv 50 (by unfold inC; omega)
  have q56 : ν 56 = μ 56 := fv 56 (by unfold inC; omega)
  have q57 : ν 57 = μ 57 := fv 57 (by unfold inC; omega)
  have q58 : ν 58 = μ 58 := fv 58 (by unfold inC; omega)
  have w2 : ¬ ν 56 (nI j).toNatClampNeg = 0 := by rw [q56]; exact w0
  refine unl (bfT rfl ?_)
  repeat' (first | refine brF c10 ?_ | refine brT c00 ?_ | refine brF c01 ?_ | refine brT c11 ?_ | refine brT (by assumption) ?_ | refine brF (by assumption) ?_)
  refine (@bfT _ _ _ _ _ (inS)) ?_
  refine brF w2 ?_
  refine loadM_loop (μ := ν) (F := fun i => μ 58 (40 * j + i)) hj hn (by rw [q50]; exact hI.1.2) (by rw [q57]; exact a4) (fun i hi => by rw [q58]) (fun ν2 e2 => ?_) n 0 _ _ _ (by omega) (Nat.le_trans (show _ ≤ 3280 by omega) (Nat.le_of_ble_eq_true rfl)) rfl ?_ rfl
  · rw [q50] at e2 ⊢
    refine hK _ _ _ rfl (Inv_court hI ((FrA.c1 fv).tr (by rw [e2]; exact FrA.up50)) ⟨?_, ?_⟩)
    · rw [e2, up1_at]
      exact rep_same (fun i hi => up1_ne _ _ (by unfold inC at hi; omega)) gv.n8 rv
    · rw [e2, up1_at]
      exact gv
  · exact (up1_self ν 50).symm
def jdB (r F : Nat → Int32) (i : Nat) : Bool := !(decide (i < (r 1).toNatClampNeg) && decide (r (22 + 6 * i + 3) = F i))
set_option maxRecDepth 100000 in
theorem judgeX_loop {k : Rtn} {X : Option Rz} {μ : Mem} {r F : Nat → Int32} {j n : Nat} {g : Int32} (hj : j < 4) (hn : n ≤ 40) (hR : Rep μ 1 r) (hG : G1 r) (e1 : μ (40 + (nI j).toNatClampNeg) 1 = nI n) (hF : ∀ i, i < 40 → μ (rfOf (40 + (nI j).toNatClampNeg) 2) i = F i) (hk : k (some (.int (if fsP (jdB r F) n 0 = n then 0 else 1 + nI (fsP (jdB r F) n 0)))) μ = X) :
    ∀ (m i f : Nat) (x : Int32), i + m = n → 80 * m + 80 ≤ f → x = nI i → fsP (jdB r F) n 0 = fsP (jdB r F) m i → lockO (oILd 4 28) 0 (runK P_X4_judge f k) k [some (.ref 0), some (.int (nI j)), some (.int g), some (.ref (40 + (nI j).toNatClampNeg)), some (.int x)] [] μ = X := by
  intro m
  induction m with
  | zero =>
    intro i f x hi hf hx hs
    subst hx
    obtain ⟨f2, rfl⟩ : ∃ f2, f = f2 + 80 := ⟨f - 80, by omega⟩
    have hc : ¬ nI i < μ (40 + (nI j).toNatClampNeg) 1 := by
      rw [e1]
      exact nI_nlt (by omega) (by omega)
    refine unO ?_
    refine (@bfT _ _ _ _ _ (kdS hj)) ?_
    refine brF hc ?_
    have es : fsP (jdB r F) n 0 = n := hs.trans (show i = n by omega)
    rw [if_pos es] at hk
    exact hk
  | succ m ih =>
    intro i f x hi hf hx hs
    subst hx
    obtain ⟨f2, rfl⟩ : ∃ f2, f = f2 + 80 := ⟨f - 80, by omega⟩
    have hc : nI i < μ (40 + (nI j).toNatClampNeg) 1 := by
      rw [e1]
      exact nI_lt (by omega) (by omega)
    have h0 : ¬ nI i < 0 := nI_nl (by omega)
    have e7 : μ 1 7 = r 1 := hR.1.2.1
    refine unO ?_
    refine (@bfT _ _ _ _ _ (kdS hj)) ?_
    refine brT hc ?_
    refine brF h0 ?_
    have stop : jdB r F i = true → k (some (.int (1 + nI i))) μ = X := by
      intro q
      have es : fsP (jdB r F) n 0 = i := hs.trans (fsP_t q)
      rw [es, if_neg (by omega)] at hk
      exact hk
    by_cases hN : i < (r 1).toNatClampNeg
    · have h8 := hG.n8
      have hx : dI (nI i) := ⟨i, by omega, rfl⟩
      have c7 : nI i < μ 1 7 := by rw [e7]; exact (hG.ltN (by omega)).mpr hN
      have eF : μ (rfOf (40 + (nI j).toNatClampNeg) 2) (nI i).toNatClampNeg = F i := by
        rw [nI_cl (show i < 100000 by omega)]
        exact hF i (by omega)
      have eR : μ (13 + (nI i).toNatClampNeg) 3 = r (22 + 6 * i + 3) := by
        rw [nI_cl (by omega)]
        exact hR.2.2.2 i hN 3 (by decide)
      refine brT c7 ?_
      refine (@bfT _ _ _ _ _ (in8 hx)) ?_
      refine (@bfT _ _ _ _ _ (kdq_1 hx)) ?_
      refine (@bfT _ _ _ _ _ (kdS hj)) ?_
      refine (@bfT _ _ _ _ _ (kdN hj)) ?_
      refine (@bfT _ _ _ _ _ (inN hj (show i < 40 by omega))) ?_
      by_cases q1 : r (22 + 6 * i + 3) = F i
      · refine brT (eR.trans (q1.trans eF.symm)) ?_
        have hB : jdB r F i = false := by simp [jdB, q1, hN]
        exact ih (i + 1) _ _ (by omega) (by omega) (nI_succ i).symm (hs.trans (fsP_s hB))
      · refine brF (fun q => q1 (eR.symm.trans (q.trans eF))) ?_
        exact stop (by simp [jdB, q1])
    · have c7 : ¬ nI i < μ 1 7 := by rw [e7]; exact fun q => hN ((hG.ltN (by omega)).mp q)
      refine brF c7 ?_
      exact stop (by simp [jdB, hN])
set_option maxRecDepth 100000 in
theorem judgeM_loop {k : Rtn} {X : Option Rz} {μ : Mem} {j n : Nat} {F : Nat → Int32} (hj : j < 4) (hn : n ≤ 40) (hG : G1 (μ 50)) (e1 : μ 57 (nI j).toNatClampNeg = nI n) (hF : ∀ i, i < 40 → μ 58 (40 * j + i) = F i) (hk : k (some (.int (if fsP (jdB (μ 50) F) n 0 = n then 0 else 1 + nI (fsP (jdB (μ 50) F) n 0)))) μ = X) :
    ∀ (m i f : Nat) (x : Int32), i + m = n → 80 * m + 80 ≤ f → x = nI i → fsP (jdB (μ 50) F) n 0 = fsP (jdB (μ 50) F) m i → lockO (oILd 2 23) 0 (runK P_X5_judge f k) k [some (.ref 49), some (.int (nI j)), some (.int x)] [] μ = X := by
  have inS : inB (nI j) 4 = true := inB_nI hj (by decide)
  intro m
  induction m with
  | zero =>
    intro i f x hi hf hx hs
    subst hx
    obtain ⟨f2, rfl⟩ : ∃ f2, f = f2 + 80 := ⟨f - 80, by omega⟩
    have ei : i = n := by omega
    have hc : ¬ nI i < μ 57 (nI j).toNatClampNeg := by
      rw [e1]
      exact nI_nlt (by omega) (by omega)
    refine unO ?_
    refine (@bfT _ _ _ _ _ (inS)) ?_
    refine brF hc ?_
    refine (@bfT _ _ _ _ _ (inS)) ?_
    refine brT (show nI i = μ 57 (nI j).toNatClampNeg by rw [e1, ei]) ?_
    have es : fsP (jdB (μ 50) F) n 0 = n := hs.trans ei
    rw [if_pos es] at hk
    exact hk
  | succ m ih =>
    intro i f x hi hf hx hs
    subst hx
    obtain ⟨f2, rfl⟩ : ∃ f2, f = f2 + 80 := ⟨f - 80, by omega⟩
    have hc : nI i < μ 57 (nI j).toNatClampNeg := by
      rw [e1]
      exact nI_lt (by omega) (by omega)
    have hne : ¬ nI i = μ 57 (nI j).toNatClampNeg := by
      rw [e1, nI_eq (by omega) (by omega)]
      omega
    have h0 : ¬ nI i < 0 := nI_nl (by omega)
    refine unO ?_
    refine (@bfT _ _ _ _ _ (inS)) ?_
    refine brT hc ?_
    refine brF h0 ?_
    have stop : jdB (μ 50) F i = true → k (some (.int (1 + nI i))) μ = X := by
      intro q
      have es : fsP (jdB (μ 50) F) n 0 = i := hs.trans (fsP_t q)
      rw [es, if_neg (by omega)] at hk
      exact hk
    by_cases hN : i < (μ 50 1).toNatClampNeg
    · have h8 := hG.n8
      have hx : dI (nI i) := ⟨i, by omega, rfl⟩
      have c7 : ¬ μ 50 1 - 1 < nI i := (hG.ltM (by omega)).mpr hN
      have eF : μ 58 ((40 : Int32) * nI j + nI i).toNatClampNeg = F i := by
        rw [cl40 hj (by omega)]
        exact hF i (by omega)
      have eR : rD (μ 50) (nI i) 3 = μ 50 (22 + 6 * i + 3) := rD_n _ (by omega) (by decide : 3 < 6)
      refine brF c7 ?_
      refine (@bfT _ _ _ _ _ (in40 hj (show i < 40 by omega))) ?_
      refine e_dIs hx f3 ?_
      by_cases q1 : μ 50 (22 + 6 * i + 3) = F i
      · refine brT (eF.trans (q1.symm.trans eR.symm)) ?_
        have hB : jdB (μ 50) F i = false := by simp [jdB, q1, hN]
        exact ih (i + 1) _ _ (by omega) (by omega) (nI_succ i).symm (hs.trans (fsP_s hB))
      · refine brF (fun q => q1 (eR.symm.trans (q.symm.trans eF))) ?_
        refine (@bfT _ _ _ _ _ (inS)) ?_
        refine brF hne ?_
        exact stop (by simp [jdB, q1])
    · have c7 : μ 50 1 - 1 < nI i := Classical.byContradiction (fun q => hN ((hG.ltM (by omega)).mp q))
      refine brT c7 ?_
      refine (@bfT _ _ _ _ _ (inS)) ?_
      refine brF hne ?_
      exact stop (by simp [jdB, hN])
set_option maxRecDepth 100000 in
theorem T_judge {μ : Mem} {k1 : Rtn} {K : Int32 → Rtn} {X : Option Rz} (hI : Inv μ) {s : Int32} (hm : ∀ w μ1, k1 (some (.int w)) μ1 = S_X5_judge [.ref 49, .int s] μ1 (K w)) (hK : ∀ v w μ2, v = w → Inv μ2 → K v (some (.int w)) μ2 = X) : S_X4_judge [.ref 0, .int s] μ k1 = X := by
  by_cases s1 : s < 0
  · refine unl (bfT rfl ?_)
    repeat' (first | refine brT (by assumption) ?_ | refine brF (by assumption) ?_ | refine br (fun q => ?_) (fun q => ?_))
    refine x_tell0 ?_; refine (hm _ _).trans ?_; refine unl (bfT rfl ?_); (repeat' (first | refine brF c10 ?_ | refine brT c00 ?_ | refine brF c01 ?_ | refine brT c11 ?_ | refine brT (by assumption) ?_ | refine brF (by assumption) ?_)); refine e_find0 ?_; exact hK _ _ _ rfl (Inv_tell hI (by decide))
  by_cases s2 : 3 < s
  · refine unl (bfT rfl ?_)
    repeat' (first | refine brT (by assumption) ?_ | refine brF (by assumption) ?_ | refine br (fun q => ?_) (fun q => ?_))
    refine x_tell0 ?_; refine (hm _ _).trans ?_; refine unl (bfT rfl ?_); (repeat' (first | refine brF c10 ?_ | refine brT c00 ?_ | refine brF c01 ?_ | refine brT c11 ?_ | refine brT (by assumption) ?_ | refine brF (by assumption) ?_)); refine e_find0 ?_; exact hK _ _ _ rfl (Inv_tell hI (by decide))
  obtain ⟨j, hj3, rfl⟩ := nlt_VB (n := 3) (x := s) (by decide) s1 s2
  have hj : j < 4 := by omega
  have inS : inB (nI j) 4 = true := inB_nI hj (by decide)
  obtain ⟨a1, a2, ⟨n, hn, a4⟩, a5⟩ := shF hI.2.2.2.1 hj
  by_cases w0 : μ 56 (nI j).toNatClampNeg = 0
  · have w1 : μ (40 + (nI j).toNatClampNeg) 0 = 0 := a1.trans w0
    refine unl (bfT rfl ?_)
    repeat' (first | refine brF c10 ?_ | refine brT c00 ?_ | refine brF c01 ?_ | refine brT c11 ?_ | refine brT (by assumption) ?_ | refine brF (by assumption) ?_)
    refine (@bfT _ _ _ _ _ (inS)) ?_
    refine (@bfT _ _ _ _ _ (kdS hj)) ?_
    refine (@bfT _ _ _ _ _ (kdS hj)) ?_
    repeat' (first | refine brF c10 ?_ | refine brT c00 ?_ | refine brF c01 ?_ | refine brT c11 ?_ | refine brT (by assumption) ?_ | refine brF (by assumption) ?_)
    refine x_tell5 ?_
    refine (hm _ _).trans ?_
    refine unl (bfT rfl ?_)
    repeat' (first | refine brF c10 ?_ | refine brT c00 ?_ | refine brF c01 ?_ | refine brT c11 ?_ | refine brT (by assumption) ?_ | refine brF (by assumption) ?_)
    refine (@bfT _ _ _ _ _ (inS)) ?_
    refine brT w0 ?_
    repeat' (first | refine brF c10 ?_ | refine brT c00 ?_ | refine brF c01 ?_ | refine brT c11 ?_ | refine brT (by assumption) ?_ | refine brF (by assumption) ?_)
    refine (@bfT _ _ _ _ _ (inS)) ?_
    refine brT w0 ?_
    refine e_find5 ?_
    exact hK _ _ _ rfl (Inv_tell hI (by decide))
  have w1 : ¬ μ (40 + (nI j).toNatClampNeg) 0 = 0 := fun q => w0 (a1.symm.trans q)
  refine unl (bfT rfl ?_)
  repeat' (first | refine brF c10 ?_ | refine brT c00 ?_ | refine brF c01 ?_ | refine brT c11 ?_ | refine brT (by assumption) ?_ | refine brF (by assumption) ?_)
  refine (@bfT _ _ _ _ _ (inS)) ?_
  refine (@bfT _ _ _ _ _ (kdS hj)) ?_
  refine (@bfT _ _ _ _ _ (kdS hj)) ?_
  repeat' (first | refine brF c10 ?_ | refine brT c00 ?_ | refine brF c01 ?_ | refine brT c11 ?_ | refine brT (by assumption) ?_ | refine brF (by assumption) ?_)
  refine (@bfT _ _ _ _ _ (inS)) ?_
  refine judgeX_loop (F := fun i => μ 58 (40 * j + i)) hj hn hI.1.1 hI.1.2 (a2.trans a4) a5 ?_ n 0 _ _ (by omega) (Nat.le_trans (show _ ≤ 3280 by omega) (Nat.le_of_ble_eq_true rfl)) rfl rfl
  refine (hm _ _).trans ?_
  refine unl (bfT rfl ?_)
  repeat' (first | refine brF c10 ?_ | refine brT c00 ?_ | refine brF c01 ?_ | refine brT c11 ?_ | refine brT (by assumption) ?_ | refine brF (by assumption) ?_)
  refine (@bfT _ _ _ _ _ (inS)) ?_
  refine brF w0 ?_
  refine judgeM_loop (F := fun i => μ 58 (40 * j + i)) hj hn hI.1.2 a4 (fun i hi => rfl) ?_ n 0 _ _ (by omega) (Nat.le_trans (show _ ≤ 3280 by omega) (Nat.le_of_ble_eq_true rfl)) rfl rfl
  exact hK _ _ _ rfl hI
