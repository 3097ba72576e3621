/-! bounds are kept; what is found holds in both -/
theorem growsV_b (x : Int32) : VB (growsV x) 12 := by
  unfold growsV
  repeat' (first | split | exact ⟨12, by omega, rfl⟩ | exact ⟨3, by omega, rfl⟩ | exact ⟨0, by omega, rfl⟩ | exact ⟨8, by omega, rfl⟩ | exact ⟨6, by omega, rfl⟩)
theorem learnsV_b (x : Int32) : VB (learnsV x) 7 := by
  unfold learnsV
  repeat' (first | split | exact ⟨0, by omega, rfl⟩ | exact ⟨7, by omega, rfl⟩ | exact ⟨5, by omega, rfl⟩ | exact ⟨3, by omega, rfl⟩)
theorem coolsV_b (x : Int32) : VB (coolsV x) 5 := by
  unfold coolsV
  repeat' (first | split | exact ⟨1, by omega, rfl⟩ | exact ⟨5, by omega, rfl⟩ | exact ⟨2, by omega, rfl⟩)
theorem minI_n2 (a b : Nat) (ha : a < 1000000) (hb : b < 1000000) : minI (nI a) (nI b) = nI (min a b) := by
  unfold minI
  by_cases h : b < a
  · rw [if_pos (nI_lt h (by omega)), Nat.min_eq_right (by omega)]
  · rw [if_neg (nI_nlt (by omega) (by omega)), Nat.min_eq_left (by omega)]
theorem minB {x y : Int32} {n m : Nat} (b : Nat) (hx : VB x n) (hy : VB y m) (hn : n + m < 1000000) (hb : b < 1000000) : VB (minI (nI b) (x + y)) b := by
  obtain ⟨a, ha, rfl⟩ := hx
  obtain ⟨c, hc, rfl⟩ := hy
  rw [nI_add, minI_n2 b (a + c) hb (by omega)]
  exact ⟨_, Nat.min_le_left _ _, rfl⟩
theorem one_b : VB 1 1 := ⟨1, by omega, rfl⟩
theorem maxB {x y : Int32} {n m : Nat} (hx : VB x n) (hy : VB y m) (hn : n < 100000) (hm : m < 100000) : VB (maxI 0 (x - y)) n := by
  obtain ⟨a, ha, rfl⟩ := hx
  obtain ⟨c, hc, rfl⟩ := hy
  unfold maxI
  by_cases h : a < c
  · have h1 : nI a - nI c < 0 := pk_sneg (by omega) h
    rw [if_neg (Int32.not_lt.mpr (Int32.le_of_lt h1))]
    exact ⟨0, by omega, rfl⟩
  · rw [pk_sub (by omega)]
    by_cases h2 : 0 < nI (a - c)
    · rw [if_pos h2]; exact ⟨a - c, by omega, rfl⟩
    · rw [if_neg h2]; exact ⟨0, by omega, rfl⟩
theorem nf {P : Prop} {a b : Nat} (h : Nat.beq a b = false) : a = b → P := fun q => by rw [q, beqT] at h; cases h
theorem G1_put {r : Nat → Int32} (hG : G1 r) {d g : Nat} {v : Int32} (hd : d < (r 1).toNatClampNeg) (hg : g < 6) (h0 : g = 0 → VB v 6) (h1 : g = 1 → VB v 99) (h2 : g = 2 → VB v 99) (h3 : g = 3 → VB v 9999) (h5 : g = 5 → VB v 1) : G1 (upf r (22 + 6 * d + g) v) := by
  obtain ⟨q1, q2, q3⟩ := hG
  have e1 : upf r (22 + 6 * d + g) v 1 = r 1 := upf_ne _ _ (by omega)
  refine ⟨?_, fun j hj => ?_, fun d2 hd2 => ?_⟩
  · rw [e1, upf_ne r v (show ¬ 0 = _ by omega), upf_ne r v (show ¬ 4 = _ by omega), upf_ne r v (show ¬ 5 = _ by omega)]
    exact q1
  · rw [e1, upf_ne r v (by omega)]
    exact q2 j hj
  · rw [e1] at hd2
    obtain ⟨p0, p1, p2, p3, p5⟩ := q3 d2 hd2
    by_cases e : d2 = d
    · subst e
      refine ⟨?_, ?_, ?_, ?_, ?_⟩
      · by_cases q : g = 0
        · subst q; rw [show 22 + 6 * d2 = 22 + 6 * d2 + 0 from rfl, upf_at]; exact h0 rfl
        · rw [upf_ne r v (by omega)]; exact p0
      · by_cases q : g = 1
        · subst q; rw [upf_at]; exact h1 rfl
        · rw [upf_ne r v (by omega)]; exact p1
      · by_cases q : g = 2
        · subst q; rw [upf_at]; exact h2 rfl
        · rw [upf_ne r v (by omega)]; exact p2
      · by_cases q : g = 3
        · subst q; rw [upf_at]; exact h3 rfl
        · rw [upf_ne r v (by omega)]; exact p3
      · by_cases q : g = 5
        · subst q; rw [upf_at]; exact h5 rfl
        · rw [upf_ne r v (by omega)]; exact p5
    · rw [upf_ne r v (by omega), upf_ne r v (by omega), upf_ne r v (by omega), upf_ne r v (by omega), upf_ne r v (by omega)]
      exact ⟨p0, p1, p2, p3, p5⟩
theorem G1_own {r : Nat → Int32} (hG : G1 r) {k : Nat} {v : Int32} (hk : k < 12) (h1 : ¬ k = 1) (h0 : k = 0 → VB v 99999) (h4 : k = 4 → VB v 9) (h5 : k = 5 → VB v 9999) : G1 (upf r k v) := by
  obtain ⟨⟨a0, a1, a4, a5⟩, q2, q3⟩ := hG
  have e1 : upf r k v 1 = r 1 := upf_ne _ _ (by omega)
  refine ⟨⟨?_, ?_, ?_, ?_⟩, fun j hj => ?_, fun d2 hd2 => ?_⟩
  · by_cases q : k = 0
    · subst q; rw [upf_at]; exact h0 rfl
    · rw [upf_ne r v (by omega)]; exact a0
  · rw [e1]; exact a1
  · by_cases q : k = 4
    · subst q; rw [upf_at]; exact h4 rfl
    · rw [upf_ne r v (by omega)]; exact a4
  · by_cases q : k = 5
    · subst q; rw [upf_at]; exact h5 rfl
    · rw [upf_ne r v (by omega)]; exact a5
  · rw [e1, upf_ne r v (by omega)]; exact q2 j hj
  · rw [e1] at hd2
    rw [upf_ne r v (by omega), upf_ne r v (by omega), upf_ne r v (by omega), upf_ne r v (by omega), upf_ne r v (by omega)]
    exact q3 d2 hd2
def foundN (r : Nat → Int32) (w o : Nat) : Nat → Int32 := upf (upf (upf (upf r (22 + 6 * w + 3) (minI 9999 (r (22 + 6 * w + 3) + 1))) (22 + 6 * w + 2) (minI 99 (r (22 + 6 * w + 2) + growsV (r (22 + 6 * w))))) (22 + 6 * w + 1) (minI 99 (r (22 + 6 * w + 1) + learnsV (r (22 + 6 * w))))) (22 + 6 * o + 4) (minI 9999 (r (22 + 6 * o + 4) + 1))
theorem foundR_n {r : Nat → Int32} {w o : Nat} (hw : w < 8) (ho : o < 8) : foundR r (nI w) (nI o) = foundN r w o := by
  have e0 : ((22 : Int32) + 6 * nI w + 0).toNatClampNeg = 22 + 6 * w := ixD_cl (g := 0) hw (by decide)
  have e1 : ((22 : Int32) + 6 * nI w + 1).toNatClampNeg = 22 + 6 * w + 1 := ixD_cl (g := 1) hw (by decide)
  have e2 : ((22 : Int32) + 6 * nI w + 2).toNatClampNeg = 22 + 6 * w + 2 := ixD_cl (g := 2) hw (by decide)
  have e3 : ((22 : Int32) + 6 * nI w + 3).toNatClampNeg = 22 + 6 * w + 3 := ixD_cl (g := 3) hw (by decide)
  have o4 : ((22 : Int32) + 6 * nI o + 4).toNatClampNeg = 22 + 6 * o + 4 := ixD_cl (g := 4) ho (by decide)
  unfold foundR foundN
  simp only [ua, rD, ra, e0, e1, e2, e3, o4]
  have k1 : ∀ (f : Nat → Int32) (v : Int32), upf f (22 + 6 * w + 3) v (22 + 6 * w + 2) = f (22 + 6 * w + 2) := fun f v => upf_ne _ _ (by omega)
  have k2 : ∀ (f : Nat → Int32) (v : Int32), upf f (22 + 6 * w + 3) v (22 + 6 * w + 1) = f (22 + 6 * w + 1) := fun f v => upf_ne _ _ (by omega)
  have k3 : ∀ (f : Nat → Int32) (v : Int32), upf f (22 + 6 * w + 2) v (22 + 6 * w + 1) = f (22 + 6 * w + 1) := fun f v => upf_ne _ _ (by omega)
  have k4 : ∀ (f : Nat → Int32) (v : Int32), upf f (22 + 6 * w + 1) v (22 + 6 * o + 4) = f (22 + 6 * o + 4) := fun f v => upf_ne _ _ (by omega)
  have k5 : ∀ (f : Nat → Int32) (v : Int32), upf f (22 + 6 * w + 2) v (22 + 6 * o + 4) = f (22 + 6 * o + 4) := fun f v => upf_ne _ _ (by omega)
  have k6 : ∀ (f : Nat → Int32) (v : Int32), upf f (22 + 6 * w + 3) v (22 + 6 * o + 4) = f (22 + 6 * o + 4) := fun f v => upf_ne _ _ (by omega)
  simp only [k1, k2, k3, k4, k5, k6]
theorem upf_1 {r : Nat → Int32} {d g : Nat} {v : Int32} : upf r (22 + 6 * d + g) v 1 = r 1 := upf_ne _ _ (by omega)
theorem G1_found {r : Nat → Int32} (hG : G1 r) {w o : Nat} (hw : w < (r 1).toNatClampNeg) (ho : o < (r 1).toNatClampNeg) : G1 (foundN r w o) := by
  obtain ⟨p0, p1, p2, p3, p5⟩ := hG.2.2 w hw
  unfold foundN
  refine G1_put (G1_put (G1_put (G1_put hG hw (by decide) (nf rfl) (nf rfl) (nf rfl) (fun _ => minB 9999 p3 one_b (by decide) (by decide)) (nf rfl)) ?_ (by decide) (nf rfl) (nf rfl) (fun _ => minB 99 p2 (growsV_b _) (by decide) (by decide)) (nf rfl) (nf rfl)) ?_ (by decide) (nf rfl) (fun _ => minB 99 p1 (learnsV_b _) (by decide) (by decide)) (nf rfl) (nf rfl) (nf rfl)) ?_ (by decide) (nf rfl) (nf rfl) (nf rfl) (nf rfl) (nf rfl)
  · rw [upf_1]; exact hw
  · rw [upf_1, upf_1]; exact hw
  · rw [upf_1, upf_1, upf_1]; exact ho
theorem loserH_or {h : Int32} {r : Nat → Int32} {a b : Int32} : loserH h r a b = -1 ∨ loserH h r a b = a ∨ loserH h r a b = b := by
  unfold loserH
  split
  · exact Or.inl rfl
  · split
    · split
      · exact Or.inr (Or.inl rfl)
      · exact Or.inr (Or.inr rfl)
    · split
      · exact Or.inr (Or.inr rfl)
      · exact Or.inr (Or.inl rfl)
theorem hasR.nn {r : Nat → Int32} {x : Int32} (h : hasR r x) (hG : G1 r) : ¬ x < 0 := by
  obtain ⟨d, hd, rfl⟩ := h
  have := hG.n8
  exact nI_nl (by omega)
theorem G1_settles {r : Nat → Int32} (hG : G1 r) {a b : Int32} (ha : hasR r a) (hb : hasR r b) : G1 (settlesR r a b) := by
  have h8 := hG.n8
  unfold settlesR
  rcases loserH_or (h := ra r 3) (r := r) (a := a) (b := b) with e | e | e
  · rw [e, if_pos (by decide)]
    exact G1_own hG (by decide) (by decide) (nf rfl) (nf rfl) (fun _ => minB 9999 hG.1.2.2.2 one_b (by decide) (by decide))
  · rw [e, if_neg (ha.nn hG), if_pos rfl]
    obtain ⟨w, hw, rfl⟩ := ha
    obtain ⟨o, ho, rfl⟩ := hb
    rw [foundR_n (by omega) (by omega)]
    exact G1_found hG hw ho
  · rw [e, if_neg (hb.nn hG)]
    obtain ⟨w, hw, rfl⟩ := ha
    obtain ⟨o, ho, rfl⟩ := hb
    split
    · rw [foundR_n (by omega) (by omega)]
      exact G1_found hG ho ho
    · rw [foundR_n (by omega) (by omega)]
      exact G1_found hG ho hw
theorem fo_has {r : Nat → Int32} (hG : G1 r) (h : foI r = 0) : hasR r (LR r / 10) ∧ hasR r (LR r % 10) ∧ ¬ LR r / 10 = LR r % 10 := by
  unfold foI at h
  by_cases g1 : LR r / 10 < 0
  · rw [if_pos g1] at h; exact absurd h (by decide)
  · rw [if_neg g1] at h
    by_cases g2 : ra r 1 - 1 < LR r / 10
    · rw [if_pos g2] at h; exact absurd h (by decide)
    · rw [if_neg g2] at h
      by_cases g3 : LR r % 10 < 0
      · rw [if_pos g3] at h; exact absurd h (by decide)
      · rw [if_neg g3] at h
        by_cases g4 : ra r 1 - 1 < LR r % 10
        · rw [if_pos g4] at h; exact absurd h (by decide)
        · rw [if_neg g4] at h
          by_cases g5 : LR r / 10 = LR r % 10
          · rw [if_pos g5] at h; exact absurd h (by decide)
          · exact ⟨hG.has g1 ((hG.lt _).mpr g2), hG.has g3 ((hG.lt _).mpr g4), g5⟩
theorem G1_drops1 {r : Nat → Int32} (hG : G1 r) : G1 (dropsR1 r) := by
  unfold dropsR1
  by_cases h : foI r = 0
  · rw [if_pos h]
    exact G1_settles hG (fo_has hG h).1 (fo_has hG h).2.1
  · rw [if_neg h]; exact hG
theorem coolR_s {r : Nat → Int32} {d : Nat} (hd : d < 8) : coolR (d + 1) r = upf (coolR d r) (22 + 6 * d + 2) (maxI 0 (coolR d r (22 + 6 * d + 2) - coolsV (coolR d r (22 + 6 * d)))) := by
  have e0 : ((22 : Int32) + 6 * nI d + 0).toNatClampNeg = 22 + 6 * d := ixD_cl (g := 0) hd (by decide)
  have e2 : ((22 : Int32) + 6 * nI d + 2).toNatClampNeg = 22 + 6 * d + 2 := ixD_cl (g := 2) hd (by decide)
  show ua (coolR d r) (22 + 6 * nI d + 2) (maxI 0 (rD (coolR d r) (nI d) 2 - coolsV (rD (coolR d r) (nI d) 0))) = _
  simp only [ua, rD, ra, e0, e2]
theorem G1_cool {r : Nat → Int32} (hG : G1 r) : ∀ d, d ≤ (r 1).toNatClampNeg → G1 (coolR d r) ∧ coolR d r 1 = r 1 := by
  intro d
  have h8 := hG.n8
  induction d with
  | zero => intro _; exact ⟨hG, rfl⟩
  | succ d ih =>
    intro hd
    obtain ⟨g, e⟩ := ih (by omega)
    rw [coolR_s (by omega)]
    have hd2 : d < (coolR d r 1).toNatClampNeg := by rw [e]; omega
    obtain ⟨p0, p1, p2, p3, p5⟩ := g.2.2 d hd2
    exact ⟨G1_put g hd2 (by decide) (nf rfl) (nf rfl) (fun _ => maxB p2 (coolsV_b _) (by decide) (by decide)) (nf rfl) (nf rfl), by rw [upf_1]; exact e⟩
theorem drops1_1 {r : Nat → Int32} (hG : G1 r) : dropsR1 r 1 = r 1 := dropsR1_lo hG.g0 (by decide) (by decide)
theorem G1_drop {r : Nat → Int32} (hG : G1 r) : G1 (dropR r) := by
  unfold dropR
  have hg := G1_drops1 hG
  have e1 := drops1_1 hG
  obtain ⟨g, e⟩ := G1_cool hg (ra r 1).toNatClampNeg (by rw [e1]; exact Nat.le_refl _)
  exact G1_own g (by decide) (by decide) (fun _ => minB 99999 g.1.1 one_b (by decide) (by decide)) (nf rfl) (nf rfl)
theorem drop_1 {r : Nat → Int32} (hG : G1 r) : dropR r 1 = r 1 := by
  have hg := G1_drops1 hG
  have e1 := drops1_1 hG
  obtain ⟨g, e⟩ := G1_cool hg (ra r 1).toNatClampNeg (by rw [e1]; exact Nat.le_refl _)
  show upf (coolR (ra r 1).toNatClampNeg (dropsR1 r)) 0 _ 1 = r 1
  rw [upf_ne _ _ (by decide), e, e1]
/-- what falls, in a court and in the row -/
theorem inC_d {c d : Nat} (hd : d < 8) : inC c (5 + 8 * c + d) := Or.inr (Or.inr (Or.inr ⟨by omega, by omega⟩))
theorem up1_fw (μ : Mem) (i : Nat) : up1 μ i (fwX (μ i)) = up2 (up2 (up2 μ i 3 (minI (μ i 3 + 1) 9999)) i 2 (minI (μ i 2 + growsV (μ i 0)) 99)) i 1 (minI (μ i 1 + learnsV (μ i 0)) 99) := by
  simp only [up2, up1_at, up1_same]
  rfl
theorem up1_fr (μ : Mem) (i : Nat) : up1 μ i (frX (μ i)) = up2 μ i 4 (minI (μ i 4 + 1) 9999) := rfl
theorem rep_found {μ : Mem} {c : Nat} {r : Nat → Int32} (hc : 1 ≤ c ∧ c ≤ 3) (hR : Rep μ c r) (hG : G1 r) {w o : Nat} (hw : w < (r 1).toNatClampNeg) (ho : o < (r 1).toNatClampNeg) (hwo : ¬ o = w) :
    Rep (up1 (up1 μ (5 + 8 * c + w) (fwX (μ (5 + 8 * c + w)))) (5 + 8 * c + o) (frX (up1 μ (5 + 8 * c + w) (fwX (μ (5 + 8 * c + w))) (5 + 8 * c + o)))) c (foundN r w o) ∧ Fr c μ (up1 (up1 μ (5 + 8 * c + w) (fwX (μ (5 + 8 * c + w)))) (5 + 8 * c + o) (frX (up1 μ (5 + 8 * c + w) (fwX (μ (5 + 8 * c + w))) (5 + 8 * c + o)))) := by
  have h8 := hG.n8
  refine ⟨?_, (Fr.up (inC_d (by omega))).tr (Fr.up (inC_d (by omega)))⟩
  have r9 := hR.2.2.2
  rw [up1_fr, up1_fw]
  have e4 : (up2 (up2 (up2 μ (5 + 8 * c + w) 3 (minI (μ (5 + 8 * c + w) 3 + 1) 9999)) (5 + 8 * c + w) 2 (minI (μ (5 + 8 * c + w) 2 + growsV (μ (5 + 8 * c + w) 0)) 99)) (5 + 8 * c + w) 1 (minI (μ (5 + 8 * c + w) 1 + learnsV (μ (5 + 8 * c + w) 0)) 99)) (5 + 8 * c + o) = μ (5 + 8 * c + o) := by
    rw [up2_ne _ _ (by omega), up2_ne _ _ (by omega), up2_ne _ _ (by omega)]
  rw [e4, r9 o ho 4 (by decide), r9 w hw 3 (by decide), r9 w hw 2 (by decide), r9 w hw 1 (by decide), r9 w hw 0 (by decide)]
  unfold foundN
  rw [minI_comm 9999, minI_comm 99, minI_comm 99, minI_comm 9999]
  refine rep_put hc (rep_put hc (rep_put hc (rep_put hc hR hw (by decide)) ?_ (by decide)) ?_ (by decide)) ?_ (by decide)
  · rw [upf_1]; exact hw
  · rw [upf_1, upf_1]; exact hw
  · rw [upf_1, upf_1, upf_1]; exact ho
theorem aq_n {c d : Nat} (hd : d < 8) : aq c (nI d) = 5 + 8 * c + d := by
  show 5 + 8 * c + (nI d).toNatClampNeg = _
  rw [nI_cl (by omega)]
theorem rep_lf {μ : Mem} {c : Nat} {r : Nat → Int32} (hc : 1 ≤ c ∧ c ≤ 3) (hR : Rep μ c r) (hG : G1 r) {a b : Int32} (ha : hasR r a) (hb : hasR r b) (hab : ¬ a = b) : Rep (lfX μ c a b) c (settlesR r a b) ∧ Fr c μ (lfX μ c a b) := by
  have h8 := hG.n8
  have e0 : loserX μ c (μ c 0) a b = loserH (ra r 3) r a b := by
    rw [loserX_eq hR hG ha hb, hR.1.2.2.2.1]
    rfl
  unfold lfX settlesR
  rw [e0]
  rcases loserH_or (h := ra r 3) (r := r) (a := a) (b := b) with e | e | e
  · rw [e, if_pos rfl, if_pos (by decide)]
    refine ⟨?_, Fr.up (Or.inl rfl)⟩
    have := rep_own (k := 2) (v := minI (μ c 2 + 1) 9999) hc hR (by decide)
    rw [hR.1.2.2.2.2.2, minI_comm] at this
    rw [hR.1.2.2.2.2.2, minI_comm]
    exact this
  · have hm : ¬ a = -1 := fun q => ha.nn hG (by rw [q]; decide)
    rw [e, if_neg hm, if_pos rfl, if_neg (ha.nn hG), if_pos rfl]
    obtain ⟨w, hw, rfl⟩ := ha
    obtain ⟨o, ho, rfl⟩ := hb
    rw [aq_n (by omega), aq_n (by omega), foundR_n (by omega) (by omega)]
    exact rep_found hc hR hG hw ho (fun q => hab (by rw [q]))
  · have hm : ¬ b = -1 := fun q => hb.nn hG (by rw [q]; decide)
    rw [e, if_neg hm, if_neg (fun q => hab q.symm), if_neg (hb.nn hG), if_neg (fun q => hab q.symm)]
    obtain ⟨w, hw, rfl⟩ := ha
    obtain ⟨o, ho, rfl⟩ := hb
    rw [aq_n (by omega), aq_n (by omega), foundR_n (by omega) (by omega)]
    exact rep_found hc hR hG ho hw (fun q => hab (by rw [q]))
