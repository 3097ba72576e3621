/-! texts: new ones, items, the text of the class -/
theorem cm_2 {r : Nat → Int32} {N : Nat} {a b : Int32} : upf (cmR r N a b) (22 + 6 * N + 2) 20 = cmR r N a b := by
  have h := upf_id (cmR r N a b) (22 + 6 * N + 2)
  rw [cmR_n (f := 2) (by decide)] at h
  exact h
theorem cm_5 {r : Nat → Int32} {N : Nat} {a b c : Int32} : upf (upf (cmR r N a b) (22 + 6 * N + 2) c) (22 + 6 * N + 5) 0 = upf (cmR r N a b) (22 + 6 * N + 2) c := by
  have h := upf_id (upf (cmR r N a b) (22 + 6 * N + 2) c) (22 + 6 * N + 5)
  rw [upf_ne (cmR r N a b) c (show ¬ 22 + 6 * N + 5 = 22 + 6 * N + 2 by omega), cmR_n (f := 5) (by decide)] at h
  exact h
theorem kd21 {N c : Nat} (hN : N < 8) (hc : c = 21 + N) : Nat.beq (kd c) 1 = true := by
  have h := kdq_2 (x := nI N) ⟨N, hN, rfl⟩
  rw [nI_cl (by omega)] at h
  rw [hc]
  exact h
theorem inC21 {N c : Nat} (hN : N < 8) (hc : c = 21 + N) : inC 2 c := by unfold inC; omega
theorem rep_p2 {μ : Mem} {R : Nat → Int32} {N c g : Nat} {v : Int32} (hN : N < 8) (hc : c = 21 + N) (e : R 1 = nI (N + 1)) (hg : g < 6) (h : Rep μ 2 R) : Rep (up2 μ c g v) 2 (upf R (22 + 6 * N + g) v) := by
  rw [hc]
  exact rep_put (c := 2) (d := N) (g := g) ⟨by decide, by decide⟩ h (by rw [e, nI_cl (by omega)]; omega) hg
section XT
variable {tp : Nat → Int32} {n : Nat}
set_option maxRecDepth 100000 in
theorem xd3 {k : Rtn} {X : Option Rz} {μ : Mem} {r : Nat → Int32} {p f N c : Nat} {kind cause temper : Int32} (hn : n ≤ 120) (hp : p ≤ n) (hB : TB tp n μ) (hX : TX tp n μ p) (hN : N < 8) (eN : (r 1).toNatClampNeg = N) (hkd : VB kind 6) (hc : c = 21 + N) (hR : Rep μ 2 (upf (cmR r N kind cause) (22 + 6 * N + 2) temper)) (hk : KX tp n r (.inr (pD3 tp n kind cause temper p)) μ k X) (hf : 11 ≤ f) : runK P_X3_readDisputant f k 92 [some (.ref 37), some (.ref 2), some (.int kind), some (.ref c)] [] μ = X := by
  obtain ⟨F, rfl⟩ : ∃ F, f = F + 11 := ⟨f - 11, by omega⟩
  have tk : ∀ s, tellR (kind, cause, temper, s) r = upf (upf (cmR r N kind cause) (22 + 6 * N + 2) temper) (22 + 6 * N + 5) s := fun s => by
    rw [tell_k (it := (kind, cause, temper, s)) hkd, eN]
    rfl
  have r1 : upf (cmR r N kind cause) (22 + 6 * N + 2) temper 1 = nI (N + 1) := by rw [upf_ne _ _ (by omega)]; exact cmR_1
  have hb := kd21 hN hc
  unfold pD3 at hk
  refine x_isWord (tp := tp) (n := n) (p := p) (w := 12) rfl (by decide) hn hp hB hX ?_
  cases hw : isW tp n 12 p with
  | false =>
    rw [hw] at hk
    rw [bI_F]
    refine hk μ FX.rf hX ?_
    show Rep μ 2 (tellR (kind, cause, temper, 0) r)
    rw [tk, cm_5]
    exact hR
  | true =>
    rw [hw] at hk
    rw [bI_T]
    have F1 : FX μ (up2 μ c 5 1) := FX.c2 (inC21 hN hc)
    have R1 := rep_p2 (g := 5) (v := 1) hN hc r1 (by decide) hR
    refine (@bfT _ _ _ _ _ (hb)) ?_
    refine x_step (tp := tp) (n := n) (p := en tp n p) hn (en_b hp).2 (hB.fx F1) (by rw [up2_ne _ _ (by omega)]; exact hX.2.2.1) (fun ν2 f2 t2 => ?_)
    refine hk ν2 (F1.tr (FX.fg f2 (by decide))) t2 ?_
    show Rep ν2 2 (tellR (kind, cause, temper, 1) r)
    rw [tk]
    refine rep_37 f2 ?_ R1
    rw [upf_ne _ _ (by omega), r1, nI_cl (by omega)]
    omega
set_option maxRecDepth 100000 in
theorem xd2 {k : Rtn} {X : Option Rz} {μ : Mem} {r : Nat → Int32} {p f N c : Nat} {kind cause : Int32} (hn : n ≤ 120) (hp : p ≤ n) (hB : TB tp n μ) (hX : TX tp n μ p) (hN : N < 8) (eN : (r 1).toNatClampNeg = N) (hkd : VB kind 6) (hc : c = 21 + N) (hR : Rep μ 2 (cmR r N kind cause)) (hk : KX tp n r (pD2 tp n kind cause p) μ k X) (hf : 26 ≤ f) : runK P_X3_readDisputant f k 59 [some (.ref 37), some (.ref 2), some (.int kind), some (.ref c)] [] μ = X := by
  obtain ⟨F, rfl⟩ : ∃ F, f = F + 26 := ⟨f - 26, by omega⟩
  have p1 := (en_b (tp := tp) hp).2
  have p2 := (en_b (tp := tp) p1).2
  have hb := kd21 hN hc
  unfold pD2 pOpt at hk
  refine x_isWord (tp := tp) (n := n) (p := p) (w := 11) rfl (by decide) hn hp hB hX ?_
  cases hw : isW tp n 11 p with
  | false =>
    rw [hw] at hk
    rw [bI_F]
    exact xd3 (temper := 20) hn hp hB hX hN eN hkd hc (by rw [cm_2]; exact hR) hk (by omega)
  | true =>
    rw [hw] at hk
    rw [bI_T]
    cases h2 : pNum tp n 0 99 (en tp n p) with
    | false =>
      rw [h2] at hk
      refine x_snF hn hp hB hX h2 (fun ν1 f1 t1 => ?_)
      exact hk ν1 (FX.fg f1 (by decide)) t1.2.1
    | true =>
      rw [h2] at hk
      refine x_snT hn hp hB hX h2 (fun ν1 f1 t1 e5 => ?_)
      have F1 : FX μ (up2 ν1 c 2 (ν1 37 5)) := (FX.fg f1 (by decide)).tr (FX.c2 (inC21 hN hc))
      have R0 : Rep ν1 2 (cmR r N kind cause) := rep_37 f1 (by rw [cmR_1, nI_cl (by omega)]; omega) hR
      have R1 := rep_p2 (g := 2) (v := ν1 37 5) hN hc cmR_1 (by decide) R0
      refine (@bfT _ _ _ _ _ (hb)) ?_
      refine x_step (tp := tp) (n := n) (p := en tp n (en tp n p)) hn p2 (hB.fx F1) (by rw [up2_ne _ _ (by omega)]; exact t1.2.2.1) (fun ν2 f2 t2 => ?_)
      refine xd3 (temper := val tp n (en tp n p)) hn p2 ((hB.fx F1).fg (by decide) f2) t2 hN eN hkd hc ?_ (KX_fx (F1.tr (FX.fg f2 (by decide))) hk) (by omega)
      rw [← e5]
      refine rep_37 f2 ?_ R1
      rw [upf_ne _ _ (by omega), cmR_1, nI_cl (by omega)]
      omega
set_option maxRecDepth 100000 in
theorem xd1 {k : Rtn} {X : Option Rz} {μ : Mem} {r : Nat → Int32} {p f N c : Nat} {kind : Int32} (hn : n ≤ 120) (hp : p ≤ n) (hB : TB tp n μ) (hX : TX tp n μ p) (hN : N < 8) (eN : (r 1).toNatClampNeg = N) (hkd : VB kind 6) (hc : c = 21 + N) (hR : Rep μ 2 (cmR r N kind 50)) (hk : KX tp n r (pD1 tp n kind p) μ k X) (hf : 41 ≤ f) : runK P_X3_readDisputant f k 26 [some (.ref 37), some (.ref 2), some (.int kind), some (.ref c)] [] μ = X := by
  obtain ⟨F, rfl⟩ : ∃ F, f = F + 41 := ⟨f - 41, by omega⟩
  have p1 := (en_b (tp := tp) hp).2
  have p2 := (en_b (tp := tp) p1).2
  have hb := kd21 hN hc
  unfold pD1 pOpt at hk
  refine x_isWord (tp := tp) (n := n) (p := p) (w := 10) rfl (by decide) hn hp hB hX ?_
  cases hw : isW tp n 10 p with
  | false =>
    rw [hw] at hk
    rw [bI_F]
    exact xd2 (cause := 50) hn hp hB hX hN eN hkd hc hR hk (by omega)
  | true =>
    rw [hw] at hk
    rw [bI_T]
    cases h2 : pNum tp n 0 99 (en tp n p) with
    | false =>
      rw [h2] at hk
      refine x_snF hn hp hB hX h2 (fun ν1 f1 t1 => ?_)
      exact hk ν1 (FX.fg f1 (by decide)) t1.2.1
    | true =>
      rw [h2] at hk
      refine x_snT hn hp hB hX h2 (fun ν1 f1 t1 e5 => ?_)
      have F1 : FX μ (up2 ν1 c 1 (ν1 37 5)) := (FX.fg f1 (by decide)).tr (FX.c2 (inC21 hN hc))
      have R0 : Rep ν1 2 (cmR r N kind 50) := rep_37 f1 (by rw [cmR_1, nI_cl (by omega)]; omega) hR
      have R1 := rep_p2 (g := 1) (v := ν1 37 5) hN hc cmR_1 (by decide) R0
      refine (@bfT _ _ _ _ _ (hb)) ?_
      refine x_step (tp := tp) (n := n) (p := en tp n (en tp n p)) hn p2 (hB.fx F1) (by rw [up2_ne _ _ (by omega)]; exact t1.2.2.1) (fun ν2 f2 t2 => ?_)
      refine xd2 (cause := val tp n (en tp n p)) hn p2 ((hB.fx F1).fg (by decide) f2) t2 hN eN hkd hc ?_ (KX_fx (F1.tr (FX.fg f2 (by decide))) hk) (by omega)
      rw [← e5, cm_cause]
      refine rep_37 f2 ?_ R1
      rw [upf_ne _ _ (by omega), cmR_1, nI_cl (by omega)]
      omega
set_option maxRecDepth 100000 in
theorem x_rDisp {μ : Mem} {k : Rtn} {X : Option Rz} {r : Nat → Int32} {p : Nat} {kind : Int32} (hn : n ≤ 120) (hp : p ≤ n) (hB : TB tp n μ) (hX : TX tp n μ p) (hG : G1 r) (hR : Rep μ 2 r) (hkd : VB kind 6) (hk : KX tp n r (bif decide (r 1 < 8) then pD1 tp n kind (en tp n p) else .inl (bg tp n p)) μ k X) : S_X3_readDisputant [.ref 37, .ref 2, .int kind] μ k = X := by
  have p1 := (en_b (tp := tp) hp).2
  have e7 : μ 2 7 = r 1 := hR.1.2.1
  refine unl (bfT rfl ?_)
  by_cases hc : r 1 < 8
  · rw [decide_eq_true hc, cond_true] at hk
    have h7 := ltI8 hG hc
    refine brT (by rw [e7]; exact hc) ?_
    refine x_admit_2 (n := (r 1).toNatClampNeg) h7 hG.n1 hR (fun μ1 r1 f1 => ?_)
    refine (@bfT _ _ _ _ _ (in8 ⟨(r 1).toNatClampNeg, h7, rfl⟩)) ?_
    refine x_step (tp := tp) (n := n) (p := en tp n p) hn p1 (hB.fx (FX.fr f1)) (by rw [f1 37 (by unfold inC; omega)]; exact hX.2.2.1) (fun ν2 f2 t2 => ?_)
    exact xd1 hn p1 ((hB.fx (FX.fr f1)).fg (by decide) f2) t2 h7 rfl hkd (by show 21 + (nI (r 1).toNatClampNeg).toNatClampNeg = _; rw [nI_cl (by omega)]) (rep_37 f2 (by rw [cmR_1, nI_cl (by omega)]; omega) r1) (KX_fx ((FX.fr f1).tr (FX.fg f2 (by decide))) hk) (Nat.le_of_ble_eq_true rfl)
  · rw [decide_eq_false hc, cond_false] at hk
    refine brF (by rw [e7]; exact hc) ?_
    exact hk μ FX.rf hX.2.1
set_option maxRecDepth 100000 in
theorem x_rItem {μ : Mem} {k : Rtn} {X : Option Rz} {r : Nat → Int32} {p : Nat} (hn : n ≤ 120) (hp : p ≤ n) (hB : TB tp n μ) (hX : TX tp n μ p) (hG : G1 r) (hR : Rep μ 2 r) (hk : KX tp n r (pItem tp n p (r 1)) μ k X) : S_X3_readItem [.ref 37, .ref 2] μ k = X := by
  unfold pItem at hk
  refine unl (bfT rfl ?_)
  refine x_kind hn hp hB hX ?_
  rcases kdW_c tp n p with ⟨k1, k2⟩ | ⟨w, hw, k1, k2⟩
  · rw [k1, m1lt, cond_true] at hk
    rw [k1]
    refine x_isWord (tp := tp) (n := n) (p := p) (w := 7) rfl (by decide) hn hp hB hX ?_
    cases h7 : isW tp n 7 p with
    | true =>
      rw [h7, cond_true] at hk
      rw [bI_T]
      exact x_rLst hn hp hB hX hG hR (KX_k (fun _ => rfl) (fun _ => rfl) hk)
    | false =>
      rw [h7, cond_false] at hk
      rw [bI_F]
      refine x_isWord (tp := tp) (n := n) (p := p) (w := 8) rfl (by decide) hn hp hB hX ?_
      cases h8 : isW tp n 8 p with
      | true =>
        rw [h8, cond_true] at hk
        rw [bI_T]
        exact x_rHeight hn hp hB hX hG hR (KX_k (fun _ => rfl) (fun _ => rfl) hk)
      | false =>
        rw [h8, cond_false] at hk
        rw [bI_F]
        refine x_isWord (tp := tp) (n := n) (p := p) (w := 9) rfl (by decide) hn hp hB hX ?_
        cases h9 : isW tp n 9 p with
        | true =>
          rw [h9, cond_true] at hk
          rw [bI_T]
          exact x_rSpread hn hp hB hX hG hR (KX_k (fun _ => rfl) (fun _ => rfl) hk)
        | false =>
          rw [h9, cond_false] at hk
          rw [bI_F]
          exact hk μ FX.rf hX.2.1
  · have k3 : ¬ kdW tp n p < 0 := by rw [k2]; exact nI_nl (by omega)
    rw [decide_eq_false k3, cond_false] at hk
    refine brF k3 ?_
    exact x_rDisp hn hp hB hX hG hR ⟨w, by omega, k2⟩ (KX_k (fun _ => rfl) (fun _ => rfl) hk)
end XT
def KQ (n : Nat) (r : Nat → Int32) (o : Nat ⊕ (Nat × (Nat → Int32))) (μ : Mem) (k : Rtn) (X : Option Rz) : Prop := match o with
  | .inl x => x ≤ n → ∀ ν, FX μ ν → k (some (.int (-1 - nI x))) ν = X
  | .inr q => q.1 ≤ 62 → PG q.2 r q.1 → ∀ ν, FX μ ν → Rep ν 2 (tl q.2 r q.1) → k (some (.int (nI q.1))) ν = X
set_option maxRecDepth 100000 in
theorem x_rd {tp : Nat → Int32} {n : Nat} {k : Rtn} {X : Option Rz} {μ : Mem} {r : Nat → Int32} (hn : n ≤ 120) (hr : G1 r) :
    ∀ (m p j F : Nat) (f : Nat → Int32) (x : Int32) (ν : Mem), m + j = 62 → 2 * j ≤ bg tp n p → p ≤ n → 60 * m + 60 ≤ F → x = nI (j + 1) → TB tp n ν → TX tp n ν p → FX μ ν → PG f r j → Rep ν 2 (tl f r j) → KQ n r (pT tp n r m p j f) μ k X → lockO (oILd 2 12) 0 (runK P_X3_read F k) k [some (.ref 37), some (.ref 2), some (.int x)] [] ν = X := by
  intro m
  induction m with
  | zero =>
    intro p j F f x ν hm hj hp
    have := bg_b (tp := tp) hp
    omega
  | succ m ih =>
    intro p j F f x ν hm hj hp hf hx hB hX hF hP hR hk
    obtain ⟨G, rfl⟩ : ∃ G, F = G + 60 := ⟨F - 60, by omega⟩
    subst hx
    have hb := pItem_b (tp := tp) (c := tl f r j 1) hp
    have hbg := bg_b (tp := tp) hp
    have hGj := PG_G1 hr hP j (Nat.le_refl _)
    rw [pT_s] at hk
    refine unO ?_
    refine brF (nI_nlt (a := 120) (b := j + 1) (by omega) (by decide)) ?_
    refine x_rItem hn hp hB hX hGj hR ?_
    cases ho : pItem tp n p (tl f r j 1) with
    | inl y =>
      rw [ho] at hk hb
      intro ν1 f1 e3
      have fin := hk hb ν1 (hF.tr f1)
      rw [← e3] at fin
      exact fin
    | inr q =>
      rw [ho] at hk hb
      obtain ⟨⟨q1, q2⟩, q3⟩ := hb
      intro ν1 f1 t1 r1
      have hF1 := hF.tr f1
      have hbq := bg_b (tp := tp) q2
      have heq := en_b (tp := tp) q2
      have hP1 := PG_s hP q3
      rw [← tl_s f r j q.2] at r1
      by_cases s0 : srt tp n q.1 = 0
      · change KQ n r (bif decide (srt tp n q.1 = 0) then _ else _) μ k X at hk
        rw [decide_eq_true s0, cond_true] at hk
        refine brT (t1.1.trans (xk_e.mpr s0)) ?_
        exact hk (by show j + 1 ≤ 62; omega) hP1 ν1 hF1 r1
      · change KQ n r (bif decide (srt tp n q.1 = 0) then _ else _) μ k X at hk
        rw [decide_eq_false s0, cond_false] at hk
        refine brF (fun z => s0 (xk_e.mp (t1.1.symm.trans z))) ?_
        by_cases s3 : srt tp n q.1 = 3 ∧ tp (bg tp n q.1) = 59
        · have es := en_s (tp := tp) (n := n) (p := q.1) s0
          rw [decide_eq_true s3.1, decide_eq_true s3.2, Bool.and_true, cond_true] at hk
          refine brT (t1.1.trans (xk_s.mpr s3)) ?_
          refine x_step (tp := tp) (n := n) (p := en tp n q.1) hn heq.2 (hB.fx f1) t1.2.2.1 (fun ν2 f2 t2 => ?_)
          have hb3 := bg_b (tp := tp) heq.2
          exact ih (en tp n q.1) (j + 1) _ (u4 f j q.2) _ ν2 (by omega) (by omega) heq.2 (by omega) (nI_1 (j + 1)) ((hB.fx f1).fg (by decide) f2) t2 (hF1.tr (FX.fg f2 (by decide))) hP1 (rep_37 f2 (PG_G1 hr hP1 (j + 1) (Nat.le_refl _)).n8 r1) hk
        · have hz : (decide (srt tp n q.1 = 3) && decide (tp (bg tp n q.1) = 59)) = false := by
            by_cases z : srt tp n q.1 = 3
            · rw [decide_eq_false (fun y => s3 ⟨z, y⟩), Bool.and_false]
            · rw [decide_eq_false z, Bool.false_and]
          rw [hz, cond_false] at hk
          refine brF (fun z => s3 (xk_s.mp (t1.1.symm.trans z))) ?_
          have fin := hk hbq.2 ν1 hF1
          rw [← t1.2.1] at fin
          exact fin
set_option maxRecDepth 100000 in
theorem x_read {μ : Mem} {k : Rtn} {X : Option Rz} {tp : Nat → Int32} {n : Nat} {r f : Nat → Int32} (hn : n ≤ 120) (hB : TB tp n μ) (hr : G1 r) (hR : Rep μ 2 r) (hk : KQ n r (pT tp n r 62 0 0 f) μ k X) : S_X3_read [.ref 37, .ref 2] μ k = X := by
  have F0 : FG 37 [2, 3, 4, 5] μ (up2 μ 37 4 0) := FG.rf.up (by decide)
  refine unl (bfT rfl ?_)
  refine x_step (tp := tp) (n := n) (p := 0) hn (Nat.zero_le _) (hB.fg (by decide) F0) rfl (fun ν1 f1 t1 => ?_)
  have F1 := F0.tr f1
  exact x_rd hn hr 62 0 0 _ f _ ν1 (by omega) (by omega) (Nat.zero_le _) (fu2 (by omega) rfl) rfl (hB.fg (by decide) F1) t1 (FX.fg F1 (by decide)) (fun i hi => absurd hi (by omega)) (rep_37 F1 hr.n8 hR) hk
theorem Inv_text {μ ν : Mem} (hI : Inv μ) (hh : ∀ i, ¬ inC 1 i → ¬ inC 2 i → ¬ i = 37 → ¬ i = 49 → ¬ i = 50 → ¬ i = 55 → ν i = μ i) (h3 : ν 49 3 = μ 49 3) (i1 : I1 ν) (i3 : I3 ν) : Inv ν := by
  obtain ⟨-, i2, -, i4, i5⟩ := hI
  have q : ∀ i, (i = 0 ∨ i = 3 ∨ i = 6 ∨ i = 9 ∨ 29 ≤ i) → ¬ i = 37 → ¬ i = 49 → ¬ i = 50 → ¬ i = 55 → ν i = μ i := fun i a b c d e => hh i (by unfold inC; omega) (by unfold inC; omega) b c d e
  refine ⟨i1, I2_same (by rw [q 0 (by omega) (by decide) (by decide) (by decide) (by decide)]) h3 (q 51 (by omega) (by decide) (by decide) (by decide) (by decide)) (fun i hi => q i (by unfold inC at hi; omega) (by unfold inC at hi; omega) (by unfold inC at hi; omega) (by unfold inC at hi; omega) (by unfold inC at hi; omega)) i2, i3, I4_same (fun i a b => q i (by omega) (by omega) (by omega) (by omega) (by omega)) (q 56 (by omega) (by decide) (by decide) (by decide) (by decide)) (q 57 (by omega) (by decide) (by decide) (by decide) (by decide)) (q 58 (by omega) (by decide) (by decide) (by decide) (by decide)) i4, I5_same (q 48 (by omega) (by decide) (by decide) (by decide) (by decide)) (q 53 (by omega) (by decide) (by decide) (by decide) (by decide)) i5⟩
theorem m1sub {x : Nat} (h : x ≤ 120) : (-1 : Int32) - nI x < 0 := by
  have all : ∀ x, x < 121 → (-1 : Int32) - nI x < 0 := by decide +kernel
  exact all x (by omega)
set_option maxRecDepth 100000 in
theorem T_text {μ : Mem} {k1 : Rtn} {K : Int32 → Rtn} {X : Option Rz} (hI : Inv μ) (hm : ∀ v μ1, k1 (some (.int v)) μ1 = S_X5_text [.ref 49] μ1 (K v)) (hK : ∀ v w μ2, v = w → Inv μ2 → K v (some (.int w)) μ2 = X) : S_X4_text [.ref 0] μ k1 = X := by
  obtain ⟨n, hn, e1, e2, e3⟩ := hI.2.2.1
  have hV : ∀ j, j < n → VB (μ 54 j) 255 := fun j hj => (e3 j hj).2
  refine unl (bfT rfl ?_)
  refine x_bec_21 hI.1.1 hI.1.2 (fun ν rv fv => ?_)
  have c37 : ¬ inC 2 37 := by unfold inC; omega
  have hB : TB (μ 54) n ν := ⟨by rw [fv 37 c37]; exact e1, fun j hj => by rw [fv 38 (by unfold inC; omega)]; exact (e3 j hj).1⟩
  refine x_read (tp := μ 54) (n := n) (r := μ 50) (f := μ 55) hn hB hI.1.2 rv ?_
  cases ho : pT (μ 54) n (μ 50) 62 0 0 (μ 55) with
  | inl x =>
    intro hx ν1 f1
    have hM : ∀ i, ¬ inC 2 i → ¬ i = 37 → up2 ν1 37 1 0 i = μ i := fun i a b => (up2_ne _ _ b).trans ((f1.1 i a b).trans (fv i a))
    have q : ∀ i, (49 ≤ i ∧ i ≤ 60) → up2 ν1 37 1 0 i = μ i := fun i h => hM i (by unfold inC; omega) (by omega)
    have m37 : up2 ν1 37 1 0 37 1 = 0 := rfl
    obtain ⟨v, hv⟩ : ∃ v : Int32, v = -1 - nI x := ⟨_, rfl⟩
    have hv0 : v < 0 := by rw [hv]; exact m1sub (by omega)
    rw [← hv]
    refine brT hv0 ?_
    refine (hm v (up2 ν1 37 1 0)).trans ?_
    generalize up2 ν1 37 1 0 = M at *
    refine e_text (tp := μ 54) (n := n) hn hV ⟨by rw [q 49 (by omega)]; exact e2, fun j _ => by rw [q 54 (by omega)]⟩ (by rw [q 50 (by omega)]; exact hI.1.2) ?_
    rw [q 50 (by omega), q 55 (by omega), ho]
    intro ν2 f2 g50
    refine hK _ _ _ hv (Inv_text hI (fun i a b c d e f => (f2.1 i d e f).trans (hM i b c)) (by rw [f2.2.1, q 49 (by omega)]) ⟨?_, ?_⟩ ⟨0, by omega, ?_, f2.2.2, fun j hj => absurd hj (by omega)⟩)
    · rw [g50, q 50 (by omega)]
      exact rep_same (fun i hi => (f2.1 i (by unfold inC at hi; omega) (by unfold inC at hi; omega) (by unfold inC at hi; omega)).trans (hM i (by unfold inC at hi ⊢; omega) (by unfold inC at hi; omega))) hI.1.2.n8 hI.1.1
    · rw [g50, q 50 (by omega)]; exact hI.1.2
    · rw [f2.1 37 (by decide) (by decide) (by decide)]; exact m37
  | inr t =>
    intro hJ hP ν1 f1 r1
    have hG := PG_G1 hI.1.2 hP t.1 (Nat.le_refl _)
    have hM : ∀ i, ¬ inC 2 i → ¬ i = 37 → up2 ν1 37 1 0 i = μ i := fun i a b => (up2_ne _ _ b).trans ((f1.1 i a b).trans (fv i a))
    have m37 : up2 ν1 37 1 0 37 1 = 0 := rfl
    have r2 : Rep (up2 ν1 37 1 0) 2 (tl t.2 (μ 50) t.1) := rep_same (fun i hi => up2_ne _ _ (by unfold inC at hi; omega)) hG.n8 r1
    refine brF (nI_nl (by omega)) ?_
    refine x_bec_12 r2 hG (fun N rN fN => ?_)
    have fN : Fr 1 (up2 ν1 37 1 0) N := fN
    have hN : ∀ i, ¬ inC 1 i → ¬ inC 2 i → ¬ i = 37 → N i = μ i := fun i z a b => (fN i z).trans (hM i a b)
    have q : ∀ i, (49 ≤ i ∧ i ≤ 60) → N i = μ i := fun i h => hN i (by unfold inC; omega) (by unfold inC; omega) (by omega)
    refine (hm _ _).trans ?_
    refine e_text (tp := μ 54) (n := n) hn hV ⟨by rw [q 49 (by omega)]; exact e2, fun j _ => by rw [q 54 (by omega)]⟩ (by rw [q 50 (by omega)]; exact hI.1.2) ?_
    rw [q 50 (by omega), q 55 (by omega), ho]
    intro ν2 f2 g50
    refine hK _ _ _ rfl (Inv_text hI (fun i a b c d e f => (f2.1 i d e f).trans (hN i a b c)) (by rw [f2.2.1, q 49 (by omega)]) ⟨?_, ?_⟩ ⟨0, by omega, ?_, f2.2.2, fun j hj => absurd hj (by omega)⟩)
    · rw [g50]
      exact rep_same (fun i hi => f2.1 i (by unfold inC at hi; omega) (by unfold inC at hi; omega) (by unfold inC at hi; omega)) hG.n8 rN
    · rw [g50]; exact hG
    · rw [f2.1 37 (by decide) (by decide) (by decide), fN 37 (by unfold inC; omega)]; exact m37
