/-! silence -/
abbrev bitI (z x : Int32) : Int32 := (z >>> (x &&& 31)) &&& 1
def huR (r : Nat → Int32) (z : Int32) : Nat → Nat → Int32
  | 0 => r
  | i + 1 => if bitI z (nI i) = 1 then upf (huR r z i) (22 + 6 * i + 5) 1 else huR r z i
theorem huR_ne {r : Nat → Int32} {z : Int32} {j : Nat} (hj : ∀ d, d < 8 → ¬ j = 22 + 6 * d + 5) : ∀ i, i ≤ 8 → huR r z i j = r j := by
  intro i
  induction i with
  | zero => intro _; rfl
  | succ i ih =>
    intro h
    unfold huR
    by_cases q : bitI z (nI i) = 1
    · rw [if_pos q, upf_ne _ _ (hj i (by omega))]; exact ih (by omega)
    · rw [if_neg q]; exact ih (by omega)
theorem huR_1 {r : Nat → Int32} {z : Int32} {i : Nat} (hi : i ≤ 8) : huR r z i 1 = r 1 := huR_ne (fun d _ => by omega) i hi
theorem G1_hu {r : Nat → Int32} (hG : G1 r) {z : Int32} : ∀ i, i ≤ (r 1).toNatClampNeg → G1 (huR r z i) := by
  have h8 := hG.n8
  intro i
  induction i with
  | zero => intro _; exact hG
  | succ i ih =>
    intro h
    unfold huR
    by_cases q : bitI z (nI i) = 1
    · rw [if_pos q]
      exact G1_put (ih (by omega)) (by rw [huR_1 (by omega)]; omega) (by decide) (nf rfl) (nf rfl) (nf rfl) (nf rfl) (fun _ => one_b)
    · rw [if_neg q]; exact ih (by omega)
theorem huR_3 {r : Nat → Int32} {z : Int32} {e i : Nat} (he : e < 8) (hi : i ≤ 8) : rD (huR r z i) (nI e) 3 = rD r (nI e) 3 := by
  have q : ∀ s : Nat → Int32, rD s (nI e) 3 = s (22 + 6 * e + 3) := fun s => rD_n s (g := 3) he (by decide)
  rw [q, q]
  exact huR_ne (fun d _ => by omega) i hi
set_option maxRecDepth 100000 in
theorem hush_loop {k : Rtn} {X : Option Rz} {μ : Mem} {r : Nat → Int32} {z : Int32} (hG : G1 r) (hk : ∀ μ', Rep μ' 2 (huR r z (r 1).toNatClampNeg) → Fr 2 μ μ' → k none μ' = X) :
    ∀ (m i f : Nat) (x : Int32) (ν : Mem), i + m = (r 1).toNatClampNeg → 40 * m + 40 ≤ f → x = nI i → Rep ν 2 (huR r z i) → Fr 2 μ ν → lockO (oILd 2 3) 0 (runK P_X0_hush f k) k [some (.ref 2), some (.int z), some (.int x)] [] ν = X := by
  have h8 := hG.n8
  have n1 := hG.n1
  intro m
  induction m with
  | zero =>
    intro i f x ν hi hf hx hR hF
    have e : i = (r 1).toNatClampNeg := by omega
    subst hx
    obtain ⟨f2, rfl⟩ : ∃ f2, f = f2 + 40 := ⟨f - 40, by omega⟩
    have hc : ¬ nI i < ν 2 7 := by
      rw [hR.1.2.1, huR_1 (by omega), n1, ← e]
      exact nI_nlt (Nat.le_refl _) (by omega)
    refine unO ?_
    refine brF hc ?_
    rw [e] at hR
    exact hk _ hR hF
  | succ m ih =>
    intro i f x ν hi hf hx hR hF
    subst hx
    obtain ⟨f2, rfl⟩ : ∃ f2, f = f2 + 40 := ⟨f - 40, by omega⟩
    have hd : dI (nI i) := ⟨i, by omega, rfl⟩
    have ec : (nI i).toNatClampNeg = i := nI_cl (by omega)
    have hc : nI i < ν 2 7 := by
      rw [hR.1.2.1, huR_1 (by omega), n1]
      exact nI_lt (by omega) (by omega)
    refine unO ?_
    refine brT hc ?_
    by_cases q : bitI z (nI i) = 1
    · refine brT q ?_
      refine (@bfT _ _ _ _ _ (in8 hd)) ?_
      refine (@bfT _ _ _ _ _ (kdq_2 hd)) ?_
      refine ih (i + 1) _ _ _ (by omega) (by omega) (nI_succ i).symm ?_ (hF.tr (Fr.up2 (by rw [ec]; exact inC_d (c := 2) (by omega))))
      unfold huR
      rw [if_pos q, ec]
      exact rep_put (c := 2) (g := 5) ⟨by decide, by decide⟩ hR (by rw [huR_1 (by omega)]; omega) (by decide)
    · refine brF q ?_
      refine ih (i + 1) _ _ _ (by omega) (by omega) (nI_succ i).symm ?_ hF
      unfold huR
      rw [if_neg q]
      exact hR
set_option maxRecDepth 100000 in
theorem x_hush {μ : Mem} {k : Rtn} {X : Option Rz} {r : Nat → Int32} {z : Int32} (hR : Rep μ 2 r) (hG : G1 r) (hk : ∀ μ', Rep μ' 2 (huR r z (r 1).toNatClampNeg) → Fr 2 μ μ' → k none μ' = X) : S_X0_hush [.ref 2, .int z] μ k = X := by
  have h8 := hG.n8
  refine unl (bfT rfl ?_)
  exact hush_loop hG hk (r 1).toNatClampNeg 0 _ _ _ (by omega) (fu (by omega) rfl) rfl hR Fr.rf
theorem back_hi {μ ν ν3 : Mem} {R : Nat → Int32} (hh : ∀ j, 70 ≤ j → R j = μ 50 j) (e50 : ν 50 = R) (e52 : ν 52 = cpI 70 (μ 50) (μ 52)) (eo : ∀ i, ¬ i = 50 → ¬ i = 52 → ν i = μ i) (e3 : ν3 = up1 ν 50 (cpI 70 (ν 52) (ν 50))) : ∀ i, ¬ i = 52 → ν3 i = μ i := by
  intro i hi
  by_cases q : i = 50
  · subst q
    rw [e3, up1_at, e52, e50]
    funext j
    by_cases hj : j < 70
    · rw [cpI_lt hj, cpI_lt hj]
    · unfold cpI
      rw [if_neg hj]
      exact hh j (by omega)
  · rw [e3, up1_ne _ _ q]; exact eo i q hi
def woV (n : Nat) (r : Nat → Int32) (z d : Int32) : Int32 := if rD (itR n (huR r z (r 1).toNatClampNeg)) d 3 = rD r d 3 then 1 else 0
set_option maxRecDepth 100000 in
theorem iwo_loop {k : Rtn} {X : Option Rz} {μ : Mem} {z d h0 : Int32} {n : Nat} (hn : n ≤ 20) (hx : dI d) (hG : G1 (μ 50)) (e0 : h0 = rD (μ 50) d 3) (hk : ∀ ν w, w = woV n (μ 50) z d → (∀ i, ¬ i = 52 → ν i = μ i) → k (some (.int w)) ν = X) :
    ∀ (m i f : Nat) (x : Int32) (ν : Mem), i + m = (μ 50 1).toNatClampNeg → 60 * m + 60 ≤ f → x = nI i → ν 50 = huR (μ 50) z i → ν 52 = cpI 70 (μ 50) (μ 52) → (∀ i, ¬ i = 50 → ¬ i = 52 → ν i = μ i) → lockO (oILd 5 24) 0 (runK P_X5_isWithout f k) k [some (.ref 49), some (.int z), some (.int d), some (.int (nI n)), some (.int h0), some (.int x)] [] ν = X := by
  have h8 := hG.n8
  have n1 := hG.n1
  intro m
  induction m with
  | zero =>
    intro i f x ν hi hf hxx e50 e52 eo
    have e : i = (μ 50 1).toNatClampNeg := by omega
    subst hxx
    obtain ⟨f2, rfl⟩ : ∃ f2, f = f2 + 60 := ⟨f - 60, by omega⟩
    have hc : ¬ nI i < ν 50 1 := by
      rw [e50, huR_1 (by omega), n1, ← e]
      exact nI_nlt (Nat.le_refl _) (by omega)
    have hG2 : G1 (huR (μ 50) z i) := G1_hu hG i (by omega)
    refine unO ?_
    refine brF hc ?_
    refine e_dropsGo (show n ≤ 200 by omega) rfl (by rw [e50]; exact hG2) (fun μ1 m1 => ?_)
    have a1 : μ1 50 = itR n (huR (μ 50) z i) := by rw [m1, up1_at, e50]
    have a2 : μ1 52 = cpI 70 (μ 50) (μ 52) := by rw [m1, up1_ne _ _ (by decide)]; exact e52
    have a3 : ∀ i, ¬ i = 50 → ¬ i = 52 → μ1 i = μ i := fun j p q => by rw [m1, up1_ne _ _ p]; exact eo j p q
    have ah : ∀ j, 70 ≤ j → itR n (huR (μ 50) z i) j = μ 50 j := fun j hj => (it_hi hG2 n hj).trans (huR_ne (fun d hd => by omega) i (by omega))
    refine e_dIs hx f3 ?_
    by_cases q : rD (itR n (huR (μ 50) z i)) d 3 = rD (μ 50) d 3
    · refine brT (show rD (μ1 50) d 3 = h0 by rw [a1, e0]; exact q) ?_
      refine e_copy_52_50 (fun μ3 m3 => ?_)
      refine hk _ _ ?_ (back_hi ah a1 a2 a3 m3)
      unfold woV
      rw [← e, if_pos q]
    · refine brF (show ¬ rD (μ1 50) d 3 = h0 by rw [a1, e0]; exact q) ?_
      refine e_copy_52_50 (fun μ3 m3 => ?_)
      refine hk _ _ ?_ (back_hi ah a1 a2 a3 m3)
      unfold woV
      rw [← e, if_neg q]
  | succ m ih =>
    intro i f x ν hi hf hxx e50 e52 eo
    subst hxx
    obtain ⟨f2, rfl⟩ : ∃ f2, f = f2 + 60 := ⟨f - 60, by omega⟩
    have hc : nI i < ν 50 1 := by
      rw [e50, huR_1 (by omega), n1]
      exact nI_lt (by omega) (by omega)
    refine unO ?_
    refine brT hc ?_
    by_cases q : bitI z (nI i) = 1
    · refine brT q ?_
      refine (@bfT _ _ _ _ _ (inD (e := i) (g := 5) (by omega) (by decide))) ?_
      refine ih (i + 1) _ _ _ (by omega) (by omega) (nI_succ i).symm ?_ ?_ ?_
      · unfold huR
        rw [if_pos q, ← e50]
        refine (up2_at _ _ _ _).trans ?_
        exact congrArg (fun j => upf (ν 50) j 1) (ixD_cl (d := i) (g := 5) (by omega) (by decide))
      · exact (up2_ne _ _ (by decide)).trans e52
      · exact fun j p p2 => (up2_ne _ _ p).trans (eo j p p2)
    · refine brF q ?_
      refine ih (i + 1) _ _ _ (by omega) (by omega) (nI_succ i).symm ?_ e52 eo
      unfold huR
      rw [if_neg q]
      exact e50
set_option maxRecDepth 100000 in
theorem e_isWithout {μ : Mem} {k : Rtn} {X : Option Rz} {z d y : Int32} {n : Nat} (hn : n ≤ 20) (hy : y = nI n) (hx : dI d) (hG : G1 (μ 50)) (hk : ∀ ν w, w = woV n (μ 50) z d → (∀ i, ¬ i = 52 → ν i = μ i) → k (some (.int w)) ν = X) : S_X5_isWithout [.ref 49, .int z, .int d, .int y] μ k = X := by
  subst hy
  have h8 := hG.n8
  refine unl (bfT rfl ?_)
  refine e_dIs hx f3 ?_
  refine e_copy_50_52 (fun μ1 m1 => ?_)
  refine iwo_loop (μ := μ) hn hx hG rfl hk (μ 50 1).toNatClampNeg 0 _ _ _ (by omega) (fu (by omega) rfl) rfl ?_ ?_ ?_
  · rw [m1, up1_ne _ _ (by decide)]; rfl
  · rw [m1, up1_at]
  · intro i p q
    rw [m1, up1_ne _ _ q]
/-! bits -/
def bc (s : Nat) : Nat := s % 2 + s / 2 % 2 + s / 4 % 2 + s / 8 % 2 + s / 16 % 2 + s / 32 % 2 + s / 64 % 2 + s / 128 % 2
abbrev usI (x y : Int32) : Int32 := (x.toUInt32 >>> (y.toUInt32 &&& Int32.toUInt32 31)).toInt32
def b1I (x : Int32) : Int32 := x - (usI x 1 &&& 1431655765)
def b2I (x : Int32) : Int32 := (x &&& 858993459) + (usI x 2 &&& 858993459)
def b3I (x : Int32) : Int32 := (x + usI x 4) &&& 252645135
def b4I (x : Int32) : Int32 := x + usI x 8
def b5I (x : Int32) : Int32 := (x + usI x 16) &&& 63
theorem bc_x : ∀ s, s < 256 → b5I (b4I (b3I (b2I (b1I (nI s))))) = nI (bc s) := by decide +kernel
set_option maxRecDepth 100000 in
theorem x_bitCount {μ : Mem} {k : Rtn} {X : Option Rz} {s : Nat} (hs : s < 256) (hk : k (some (.int (nI (bc s)))) μ = X) : S_J6_bitCount_0f7a4 [.int (nI s)] μ k = X := by
  rw [← bc_x s hs] at hk
  refine unl (bfT rfl ?_)
  exact hk
theorem an_n : ∀ s, s < 256 → nI s &&& (nI s - 1) = nI (s &&& (s - 1)) := by decide +kernel
theorem an_lt : ∀ s, s < 256 → 0 < s → (s &&& (s - 1)) < s ∧ bc (s &&& (s - 1)) + 1 = bc s := by decide +kernel
theorem bc_0 : bc 0 = 0 := rfl
theorem bc_le : ∀ s, s < 256 → bc s ≤ 8 := by decide +kernel
set_option maxRecDepth 100000 in
theorem bits_loop {k : Rtn} {X : Option Rz} {μ : Mem} {z : Int32} {B : Nat} (hk : k (some (.int (nI B))) μ = X) :
    ∀ (s f t : Nat) (c x : Int32), s < 256 → 40 * s + 40 ≤ f → x = nI s → c = nI t → t + bc s = B → lockO (oILd 2 5) 0 (runK P_X5_bits f k) k [some (.int z), some (.int c), some (.int x)] [] μ = X := by
  intro s
  induction s using Nat.strongRecOn with
  | _ s ih =>
    intro f t c x hs hf hx hc ht
    subst hx; subst hc
    obtain ⟨f2, rfl⟩ : ∃ f2, f = f2 + 40 := ⟨f - 40, by omega⟩
    refine unO ?_
    by_cases q : s = 0
    · subst q
      rw [bc_0] at ht
      rw [← ht] at hk
      exact hk
    · obtain ⟨l1, l2⟩ := an_lt s hs (by omega)
      refine brF (nI_ne0 (n := s) (by omega) (by omega)) ?_
      exact ih (s &&& (s - 1)) l1 _ (t + 1) _ _ (by omega) (by omega) (an_n s hs) (nI_succ t).symm (by omega)
set_option maxRecDepth 100000 in
theorem e_bits {μ : Mem} {k : Rtn} {X : Option Rz} {s : Nat} (hs : s < 256) (hk : k (some (.int (nI (bc s)))) μ = X) : S_X5_bits [.int (nI s)] μ k = X := by
  refine unl (bfT rfl ?_)
  exact bits_loop hk s _ 0 _ _ hs (Nat.le_trans (show _ ≤ 10240 by omega) (Nat.le_of_ble_eq_true rfl)) rfl rfl (Nat.zero_add _)
theorem bc_lt : ∀ N, N < 9 → ∀ e, e < N → ∀ s, s < 2 ^ N → bitI (nI s) (nI e) = 0 → bc s < N := by decide +kernel
theorem p2_n : ∀ N, N < 9 → (1 : Int32) <<< (nI N &&& 31) = nI (2 ^ N) ∧ 2 ^ N ≤ 256 ∧ 0 < 2 ^ N := by decide +kernel
def sP (n : Nat) (r : Nat → Int32) (e s : Nat) : Bool := decide (bitI (nI s) (nI e) = 0) && decide (rD (itR n (huR r (nI s) (r 1).toNatClampNeg)) (nI e) 3 = rD r (nI e) 3)
def isB (p : Nat → Bool) (v T s : Nat) : Prop := v ≤ s ∧ s < T ∧ p s = true ∧ ∀ t, v ≤ t → t < T → p t = true → bc s < bc t ∨ (bc s = bc t ∧ s ≤ t)
theorem isB_u {p : Nat → Bool} {v T s t : Nat} (h1 : isB p v T s) (h2 : isB p v T t) : s = t := by
  have a := h1.2.2.2 t h2.1 h2.2.1 h2.2.2.1
  have b := h2.2.2.2 s h1.1 h1.2.1 h1.2.2.1
  omega
set_option maxRecDepth 100000 in
theorem silX2 {k : Rtn} {X : Option Rz} {μ : Mem} {r : Nat → Int32} {n e T few Fe : Nat} {y4 : Int32} (hT : T ≤ 256) (hn : n ≤ 20) (he : e < (r 1).toNatClampNeg) (hG : G1 r) (hR0 : Rep μ 1 r) (e4 : y4 = nI few) (hfew : few ≤ 8) (hk : ∀ ν s, Fr 2 μ ν → s < T → sP n r e s = true → bc s = few → (∀ t, t < s → sP n r e t = true → ¬ bc t = few) → k (some (.int (nI s))) ν = X)
    (hO : ∀ (f : Nat) (x4 : Int32) (w5 w6 : Option Value) (ν : Mem), Fe ≤ f → x4 = nI (few + 1) → Fr 2 μ ν → (∀ t, t < T → sP n r e t = true → ¬ bc t = few) → lockO (oILd 4 43) 0 (runK P_X4_silence f k) k [some (.ref 0), some (.int (nI e)), some (.int (nI n)), some (.int (nI T)), some (.int x4), w5, w6] [] ν = X) :
    ∀ (m i f : Nat) (x : Int32) (w6 : Option Value) (ν : Mem), i + m = T → 60 * m + 60 + Fe ≤ f → x = nI i → Fr 2 μ ν → (∀ t, t < i → sP n r e t = true → ¬ bc t = few) → lockO (oILd 5 58) 0 (runK P_X4_silence f k) k [some (.ref 0), some (.int (nI e)), some (.int (nI n)), some (.int (nI T)), some (.int y4), some (.int x), w6] [] ν = X := by
  have h8 := hG.n8
  intro m
  induction m with
  | zero =>
    intro i f x w6 ν hi hf hx hF hs
    have ei : i = T := by omega
    subst hx; subst ei
    obtain ⟨f2, rfl⟩ : ∃ f2, f = f2 + 60 := ⟨f - 60, by omega⟩
    refine unO ?_
    refine brF (nI_nlt (Nat.le_refl i) (by omega)) ?_
    exact hO _ _ _ _ _ (by omega) (by rw [e4]; exact (nI_succ few).symm) hF hs
  | succ m ih =>
    intro i f x w6 ν hi hf hx hF hs
    subst hx
    obtain ⟨f2, rfl⟩ : ∃ f2, f = f2 + 60 := ⟨f - 60, by omega⟩
    have hi2 : i < 256 := by omega
    have nx : (sP n r e i = true → ¬ bc i = few) → ∀ t, t < i + 1 → sP n r e t = true → ¬ bc t = few := by
      intro h t ht
      by_cases q : t = i
      · subst q; exact h
      · exact hs t (by omega)
    refine unO ?_
    refine brT (nI_lt (a := i) (b := T) (by omega) (by omega)) ?_
    by_cases q0 : bitI (nI i) (nI e) = 0
    · refine brT q0 ?_
      refine x_bitCount hi2 ?_
      by_cases qf : bc i = few
      · refine brT (show nI (bc i) = y4 by rw [e4, qf]) ?_
        refine x_bec_21 (rep21 hR0 hG hF) hG (fun ν1 r1 f1 => ?_)
        refine x_hush r1 hG (fun ν2 r2 f2 => ?_)
        have hGh : G1 (huR r (nI i) (r 1).toNatClampNeg) := G1_hu hG _ (Nat.le_refl _)
        have hdh : hasR (huR r (nI i) (r 1).toNatClampNeg) (nI e) := ⟨e, by rw [huR_1 h8]; exact he, rfl⟩
        refine x_tlw (show n ≤ 60 by omega) rfl hdh hGh r2 (fun ν3 w ew f3 => ?_)
        rw [huR_3 (by omega) h8] at ew
        have fA : Fr 2 μ ν3 := hF.tr (f1.tr (f2.tr f3))
        by_cases q3 : rD (itR n (huR r (nI i) (r 1).toNatClampNeg)) (nI e) 3 = rD r (nI e) 3
        · rw [if_pos q3] at ew
          subst ew
          exact hk _ i fA (by omega) (by simp [sP, q0, q3]) qf hs
        · rw [if_neg q3] at ew
          subst ew
          exact ih (i + 1) _ _ _ _ (by omega) (by omega) (nI_succ i).symm fA (nx (fun z => by simp [sP, q3] at z))
      · have b8 := bc_le i hi2
        refine brF (show ¬ nI (bc i) = y4 by rw [e4, nI_eq (by omega) (by omega)]; exact qf) ?_
        exact ih (i + 1) _ _ _ _ (by omega) (by omega) (nI_succ i).symm hF (nx (fun _ => qf))
    · refine brF q0 ?_
      exact ih (i + 1) _ _ _ _ (by omega) (by omega) (nI_succ i).symm hF (nx (fun z => by simp [sP, q0] at z))
set_option maxRecDepth 100000 in
theorem silX1 {k : Rtn} {X : Option Rz} {μ : Mem} {r : Nat → Int32} {n e : Nat} (hn : n ≤ 20) (he : e < (r 1).toNatClampNeg) (hG : G1 r) (hR0 : Rep μ 1 r) (hk : ∀ ν s, Fr 2 μ ν → isB (sP n r e) 0 (2 ^ (r 1).toNatClampNeg) s → k (some (.int (nI s))) ν = X) (hk2 : ∀ ν, Fr 2 μ ν → (∀ t, t < 2 ^ (r 1).toNatClampNeg → sP n r e t = false) → k (some (.int (-1000004))) (telM ν 3) = X) :
    ∀ (m few f : Nat) (x4 : Int32) (w5 w6 : Option Value) (ν : Mem), few + m = (r 1).toNatClampNeg → 17000 * m + 100 ≤ f → x4 = nI few → Fr 2 μ ν → (∀ t, t < 2 ^ (r 1).toNatClampNeg → sP n r e t = true → few ≤ bc t) → lockO (oILd 4 43) 0 (runK P_X4_silence f k) k [some (.ref 0), some (.int (nI e)), some (.int (nI n)), some (.int (nI (2 ^ (r 1).toNatClampNeg))), some (.int x4), w5, w6] [] ν = X := by
  have h8 := hG.n8
  have n1 := hG.n1
  have hT := (p2_n (r 1).toNatClampNeg (by omega)).2.1
  intro m
  induction m with
  | zero =>
    intro few f x4 w5 w6 ν hi hf hx hF hs
    have e9 : few = (r 1).toNatClampNeg := by omega
    subst hx
    obtain ⟨f2, rfl⟩ : ∃ f2, f = f2 + 100 := ⟨f - 100, by omega⟩
    have hc : ¬ nI few < ν 1 7 := by
      rw [(rep21 hR0 hG hF).1.2.1, n1, ← e9]
      exact nI_nlt (Nat.le_refl few) (by omega)
    refine unO ?_
    refine brF hc ?_
    refine x_tell3 ?_
    refine hk2 _ hF (fun t ht => ?_)
    cases q : sP n r e t with
    | false => rfl
    | true =>
      exfalso
      have a := hs t ht q
      have b : bitI (nI t) (nI e) = 0 := by
        unfold sP at q
        exact of_decide_eq_true (Bool.and_eq_true _ _ ▸ q).1
      have c := bc_lt (r 1).toNatClampNeg (by omega) e he t ht b
      omega
  | succ m ih =>
    intro few f x4 w5 w6 ν hi hf hx hF hs
    subst hx
    obtain ⟨f2, rfl⟩ : ∃ f2, f = f2 + 100 := ⟨f - 100, by omega⟩
    have hc : nI few < ν 1 7 := by
      rw [(rep21 hR0 hG hF).1.2.1, n1]
      exact nI_lt (by omega) (by omega)
    refine unO ?_
    refine brT hc ?_
    refine silX2 (Fe := 17000 * m + 100) (few := few) hT hn he hG hR0 rfl (by omega) (fun ν2 s f3 h1 h2 h3 h4 => ?_) (fun f3 x4 w5 w6 ν2 h1 h2 h3 h4 => ?_) (2 ^ (r 1).toNatClampNeg) 0 _ _ _ _ (by omega) (by omega) rfl hF (fun t ht => by omega)
    · refine hk _ s f3 ⟨Nat.zero_le _, h1, h2, fun t _ ht q => ?_⟩
      have a := hs t ht q
      rcases Nat.lt_or_ge few (bc t) with z | z
      · left; omega
      · right
        refine ⟨by omega, ?_⟩
        rcases Nat.lt_or_ge t s with z2 | z2
        · exact absurd (show bc t = few by omega) (h4 t z2 q)
        · exact z2
    · refine ih (few + 1) _ _ _ _ _ (by omega) h1 h2 h3 (fun t ht q => ?_)
      have a := hs t ht q
      have b := h4 t ht q
      omega
/-- best so far, as the reference goes down -/
def bsP (p : Nat → Bool) (v T : Nat) (b : Int32) : Prop := (b = -1 ∧ ∀ t, v ≤ t → t < T → p t = false) ∨ ∃ s, b = nI s ∧ isB p v T s
theorem bsP_f {p : Nat → Bool} {v T : Nat} {b : Int32} (h : bsP p (v + 1) T b) (hp : p v = false) : bsP p v T b := by
  rcases h with ⟨h1, h2⟩ | ⟨s, h1, h2⟩
  · refine Or.inl ⟨h1, fun t a c => ?_⟩
    by_cases q : t = v
    · subst q; exact hp
    · exact h2 t (by omega) c
  · refine Or.inr ⟨s, h1, by have := h2.1; omega, h2.2.1, h2.2.2.1, fun t a c d => ?_⟩
    by_cases q : t = v
    · subst q; rw [hp] at d; cases d
    · exact h2.2.2.2 t (by omega) c d
theorem bsP_l {p : Nat → Bool} {v T s : Nat} (h : isB p (v + 1) T s) (hb : bc s < bc v) : bsP p v T (nI s) := by
  refine Or.inr ⟨s, rfl, by have := h.1; omega, h.2.1, h.2.2.1, fun t a c d => ?_⟩
  by_cases q : t = v
  · subst q; exact Or.inl hb
  · exact h.2.2.2 t (by omega) c d
theorem bsP_t {p : Nat → Bool} {v T : Nat} {b : Int32} (hv : v < T) (h : bsP p (v + 1) T b) (hp : p v = true) (hb : ∀ s, isB p (v + 1) T s → ¬ bc s < bc v) : bsP p v T (nI v) := by
  refine Or.inr ⟨v, rfl, Nat.le_refl _, hv, hp, fun t a c d => ?_⟩
  by_cases q : t = v
  · subst q; exact Or.inr ⟨rfl, Nat.le_refl _⟩
  · rcases h with ⟨h1, h2⟩ | ⟨s, h1, h2⟩
    · rw [h2 t (by omega) c] at d; cases d
    · have x := hb s h2
      have y := h2.2.2.2 t (by omega) c d
      rcases Nat.lt_or_ge (bc v) (bc t) with z | z
      · exact Or.inl z
      · exact Or.inr ⟨by omega, by omega⟩
set_option maxRecDepth 100000 in
theorem silM {k : Rtn} {X : Option Rz} {μ : Mem} {n e : Nat} (hn : n ≤ 20) (he : e < (μ 50 1).toNatClampNeg) (hG : G1 (μ 50)) (hk : ∀ ν s, Back μ ν → isB (sP n (μ 50) e) 0 (2 ^ (μ 50 1).toNatClampNeg) s → k (some (.int (nI s))) ν = X) (hk2 : ∀ ν, Back μ ν → (∀ t, t < 2 ^ (μ 50 1).toNatClampNeg → sP n (μ 50) e t = false) → k (some (.int (-1000004))) (fndM ν 3) = X) :
    ∀ (v f : Nat) (x b : Int32) (w5 : Option Value) (ν : Mem), v ≤ 2 ^ (μ 50 1).toNatClampNeg → 60 * v + 60 ≤ f → x = nI v - 1 → bsP (sP n (μ 50) e) v (2 ^ (μ 50 1).toNatClampNeg) b → (∀ i, ¬ i = 52 → ν i = μ i) → lockO (oILd 4 41) 0 (runK P_X5_silence f k) k [some (.ref 49), some (.int (nI e)), some (.int (nI n)), some (.int b), some (.int x), w5] [] ν = X := by
  have h8 := hG.n8
  have hT := (p2_n (μ 50 1).toNatClampNeg (by omega)).2.1
  have hx9 : dI (nI e) := ⟨e, by omega, rfl⟩
  intro v
  induction v with
  | zero =>
    intro f x b w5 ν hv hf hx hb hN
    subst hx
    obtain ⟨f2, rfl⟩ : ∃ f2, f = f2 + 60 := ⟨f - 60, by omega⟩
    have hBk : Back μ ν := ⟨fun i _ q => hN i q, fun i _ => by rw [hN 50 (by decide)]⟩
    refine unO ?_
    rcases hb with ⟨q, h2⟩ | ⟨s, q, h2⟩
    · subst q
      refine e_find3 ?_
      exact hk2 _ hBk (fun t ht => h2 t (Nat.zero_le _) ht)
    · subst q
      have hs := h2.2.1
      refine brF (nI_nl (n := s) (by omega)) ?_
      exact hk _ s hBk h2
  | succ v ih =>
    intro f x b w5 ν hv hf hx hb hN
    rw [decI] at hx
    subst hx
    obtain ⟨f2, rfl⟩ : ∃ f2, f = f2 + 60 := ⟨f - 60, by omega⟩
    have hi2 : v < 256 := by omega
    have e50 : ν 50 = μ 50 := hN 50 (by decide)
    have ex : nI v + -1 = nI v - 1 := pr1 v
    have go : ∀ (ff : Nat) (w : Option Value), 60 * v + 60 ≤ ff → bsP (sP n (μ 50) e) v (2 ^ (μ 50 1).toNatClampNeg) b → lockO (oILd 4 41) 0 (runK P_X5_silence ff k) k [some (.ref 49), some (.int (nI e)), some (.int (nI n)), some (.int b), some (.int (nI v + -1)), w] [] ν = X := fun ff w h1 h2 => ih ff _ b w ν (by omega) h1 ex h2 hN
    have wo : ∀ (ff : Nat) (w5 : Option Value) (w : Int32) (ν2 : Mem), bitI (nI v) (nI e) = 0 → w = woV n (ν 50) (nI v) (nI e) → (w = 1 → sP n (μ 50) e v = true) ∧ (w = 0 → sP n (μ 50) e v = false) ∧ (w = 0 ∨ w = 1) := by
      intro ff w5 w ν2 q0 ew
      rw [e50] at ew
      unfold woV at ew
      by_cases q3 : rD (itR n (huR (μ 50) (nI v) (μ 50 1).toNatClampNeg)) (nI e) 3 = rD (μ 50) (nI e) 3
      · rw [if_pos q3] at ew
        exact ⟨fun _ => by simp [sP, q0, q3], fun z => by rw [ew] at z; exact absurd z (by decide), Or.inr ew⟩
      · rw [if_neg q3] at ew
        exact ⟨fun z => by rw [ew] at z; exact absurd z (by decide), fun _ => by simp [sP, q3], Or.inl ew⟩
    refine unO ?_
    refine brF (nI_nl (n := v) (by omega)) ?_
    by_cases q0 : bitI (nI v) (nI e) = 0
    · refine brT q0 ?_
      rcases hb with ⟨q, h2⟩ | ⟨s, q, h2⟩
      · subst q
        refine e_isWithout hn rfl hx9 (by rw [e50]; exact hG) (fun ν2 w ew b2 => ?_)
        have hN2 : ∀ i, ¬ i = 52 → ν2 i = μ i := fun i p => (b2 i p).trans (hN i p)
        obtain ⟨w1, w2, w3⟩ := wo 0 none w ν2 q0 ew
        rcases w3 with z | z
        · subst z
          exact ih _ _ _ _ _ (by omega) (by omega) ex (bsP_f (Or.inl ⟨rfl, h2⟩) (w2 rfl)) hN2
        · subst z
          refine ih _ _ _ _ _ (by omega) (by omega) ex (bsP_t (by omega) (Or.inl ⟨rfl, h2⟩) (w1 rfl) (fun s hs => ?_)) hN2
          have := h2 s hs.1 hs.2.1
          rw [hs.2.2.1] at this
          cases this
      · subst q
        have hs := h2.2.1
        refine brF (nI_nl (n := s) (by omega)) ?_
        refine e_bits hi2 ?_
        refine e_bits (s := s) (by omega) ?_
        have b1 := bc_le v hi2
        have b2 := bc_le s (by omega)
        by_cases qb : bc s < bc v
        · refine brT (show nI (bc s) < nI (bc v) from nI_lt qb (by omega)) ?_
          exact ih _ _ _ _ _ (by omega) (by omega) ex (bsP_l h2 qb) hN
        · refine brF (show ¬ nI (bc s) < nI (bc v) from nI_nlt (by omega) (by omega)) ?_
          refine e_isWithout hn rfl hx9 (by rw [e50]; exact hG) (fun ν2 w ew b2 => ?_)
          have hN2 : ∀ i, ¬ i = 52 → ν2 i = μ i := fun i p => (b2 i p).trans (hN i p)
          obtain ⟨w1, w2, w3⟩ := wo 0 none w ν2 q0 ew
          rcases w3 with z | z
          · subst z
            exact ih _ _ _ _ _ (by omega) (by omega) ex (bsP_f (Or.inr ⟨s, rfl, h2⟩) (w2 rfl)) hN2
          · subst z
            refine ih _ _ _ _ _ (by omega) (by omega) ex (bsP_t (by omega) (Or.inr ⟨s, rfl, h2⟩) (w1 rfl) (fun s' hs' => ?_)) hN2
            rw [isB_u hs' h2]
            exact qb
    · refine brF q0 ?_
      exact ih _ _ _ _ _ (by omega) (by omega) ex (bsP_f hb (by simp [sP, q0])) hN
set_option maxRecDepth 100000 in
theorem e_silence {μ : Mem} {k : Rtn} {X : Option Rz} {n e : Nat} (hn : n ≤ 20) (he : e < (μ 50 1).toNatClampNeg) (hG : G1 (μ 50)) (hk : ∀ ν s, Back μ ν → isB (sP n (μ 50) e) 0 (2 ^ (μ 50 1).toNatClampNeg) s → k (some (.int (nI s))) ν = X) (hk2 : ∀ ν, Back μ ν → (∀ t, t < 2 ^ (μ 50 1).toNatClampNeg → sP n (μ 50) e t = false) → k (some (.int (-1000004))) (fndM ν 3) = X) : S_X5_silence [.ref 49, .int (nI e), .int (nI n)] μ k = X := by
  have h8 := hG.n8
  have hd : hasR (μ 50) (nI e) := ⟨e, he, rfl⟩
  have g1 : ¬ nI e < 0 := hd.nn hG
  have g3 : ¬ μ 50 1 - 1 < nI e := has_nl hd hG
  have n1 : ¬ nI n < 0 := nI_nl (by omega)
  have n2 : ¬ 20 < nI n := nI_nlt (a := 20) (b := n) hn (by decide)
  obtain ⟨t1, t2, t3⟩ := p2_n (μ 50 1).toNatClampNeg (by omega)
  rw [← hG.n1] at t1
  refine unl (bfT rfl ?_)
  repeat' (first | refine brF c10 ?_ | refine brT c00 ?_ | refine brF c01 ?_ | refine brT c11 ?_ | refine brT (by assumption) ?_ | refine brF (by assumption) ?_)
  refine silM hn he hG hk hk2 (2 ^ (μ 50 1).toNatClampNeg) _ _ _ _ _ (Nat.le_refl _) (Nat.le_trans (show _ ≤ 15420 by omega) (Nat.le_of_ble_eq_true rfl)) ?_ (Or.inl ⟨rfl, fun t a b => by omega⟩) (fun _ _ => rfl)
  show (1 : Int32) <<< (μ 50 1 &&& 31) - 1 = _
  rw [t1]
set_option maxRecDepth 100000 in
theorem T_silence {μ : Mem} {k1 : Rtn} {K : Int32 → Rtn} {X : Option Rz} (hI : Inv μ) {d a : Int32} (hm : ∀ z μ1, k1 (some (.int z)) μ1 = S_X5_silence [.ref 49, .int d, .int a] μ1 (K z)) (hK : ∀ v w μ2, v = w → Inv μ2 → K v (some (.int w)) μ2 = X) : S_X4_silence [.ref 0, .int d, .int a] μ k1 = X := by
  rcases has_cases hI d with ⟨hd, g1, g2, g3⟩ | g1 | ⟨g1, g2, g3⟩
  rotate_left
  · refine unl (bfT rfl ?_)
    repeat' (first | refine brT (by assumption) ?_ | refine brF (by assumption) ?_ | refine br (fun q => ?_) (fun q => ?_))
    all_goals (refine x_tell0 ?_; refine (hm _ _).trans ?_; refine unl (bfT rfl ?_); (repeat' (first | refine brF c10 ?_ | refine brT c00 ?_ | refine brF c01 ?_ | refine brT c11 ?_ | refine brT (by assumption) ?_ | refine brF (by assumption) ?_)); refine e_find0 ?_; exact hK _ _ _ rfl (Inv_tell hI (by decide)))
  · refine unl (bfT rfl ?_)
    repeat' (first | refine brT (by assumption) ?_ | refine brF (by assumption) ?_ | refine br (fun q => ?_) (fun q => ?_))
    all_goals (refine x_tell0 ?_; refine (hm _ _).trans ?_; refine unl (bfT rfl ?_); (repeat' (first | refine brF c10 ?_ | refine brT c00 ?_ | refine brF c01 ?_ | refine brT c11 ?_ | refine brT (by assumption) ?_ | refine brF (by assumption) ?_)); refine e_find0 ?_; exact hK _ _ _ rfl (Inv_tell hI (by decide)))
  by_cases a1 : a < 0
  · refine unl (bfT rfl ?_)
    repeat' (first | refine brT (by assumption) ?_ | refine brF (by assumption) ?_ | refine br (fun q => ?_) (fun q => ?_))
    all_goals (refine x_tell0 ?_; refine (hm _ _).trans ?_; refine unl (bfT rfl ?_); (repeat' (first | refine brF c10 ?_ | refine brT c00 ?_ | refine brF c01 ?_ | refine brT c11 ?_ | refine brT (by assumption) ?_ | refine brF (by assumption) ?_)); refine e_find0 ?_; exact hK _ _ _ rfl (Inv_tell hI (by decide)))
  by_cases a2 : 20 < a
  · refine unl (bfT rfl ?_)
    repeat' (first | refine brT (by assumption) ?_ | refine brF (by assumption) ?_ | refine br (fun q => ?_) (fun q => ?_))
    all_goals (refine x_tell0 ?_; refine (hm _ _).trans ?_; refine unl (bfT rfl ?_); (repeat' (first | refine brF c10 ?_ | refine brT c00 ?_ | refine brF c01 ?_ | refine brT c11 ?_ | refine brT (by assumption) ?_ | refine brF (by assumption) ?_)); refine e_find0 ?_; exact hK _ _ _ rfl (Inv_tell hI (by decide)))
  obtain ⟨n, hn, rfl⟩ := nlt_VB (n := 20) (by decide) a1 a2
  obtain ⟨e, he, rfl⟩ := hd
  have h8 := hI.1.2.n8
  obtain ⟨t1, t2, t3⟩ := p2_n (μ 50 1).toNatClampNeg (by omega)
  rw [← hI.1.2.n1] at t1
  have t4 : (1 : Int32) <<< (μ 1 7 &&& 31) = nI (2 ^ (μ 50 1).toNatClampNeg) := by rw [hI.1.1.1.2.1]; exact t1
  have main : ∀ (T : Int32) (f : Nat), T = nI (2 ^ (μ 50 1).toNatClampNeg) → 137000 ≤ f → lockO (oILd 4 43) 0 (runK P_X4_silence f k1) k1 [some (.ref 0), some (.int (nI e)), some (.int (nI n)), some (.int T), some (.int 0), none, none] [] μ = X := by
    intro T f hT hf
    subst hT
    refine silX1 hn he hI.1.2 hI.1.1 (fun ν s f2 hs => ?_) (fun ν f2 hs => ?_) (μ 50 1).toNatClampNeg 0 f _ _ _ _ (by omega) (by omega) rfl Fr.rf (fun t _ _ => Nat.zero_le _)
    · refine (hm _ _).trans ?_
      have e9 : ν 50 = μ 50 := f2 50 (by unfold inC; omega)
      rw [← e9] at hs he
      refine e_silence hn he (by rw [e9]; exact hI.1.2) (fun ν3 s' hB q => ?_) (fun ν3 hB q => ?_)
      · exact hK _ _ _ (by rw [isB_u hs q]) (hB.inv hI f2)
      · have z := q s hs.2.1
        rw [hs.2.2.1] at z
        cases z
    · refine (hm _ _).trans ?_
      have e9 : (telM ν 3) 50 = μ 50 := f2 50 (by unfold inC; omega)
      rw [← e9] at hs he
      refine e_silence hn he (by rw [e9]; exact hI.1.2) (fun ν3 s' hB q => ?_) (fun ν3 hB q => ?_)
      · have z := hs s' q.2.1
        rw [q.2.2.1] at z
        cases z
      · exact hK _ _ _ rfl (Inv_tb hI f2 hB (by decide))
  refine unl (bfT rfl ?_)
  repeat' (first | refine brF c10 ?_ | refine brT c00 ?_ | refine brF c01 ?_ | refine brT c11 ?_ | refine brT (by assumption) ?_ | refine brF (by assumption) ?_)
  exact main _ _ t4 (Nat.le_of_ble_eq_true rfl)
