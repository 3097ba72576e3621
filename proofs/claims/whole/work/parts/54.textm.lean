/-! texts: the reference's text -/
def PG (g r : Nat → Int32) (J : Nat) : Prop := ∀ i, i < J → itOk (itAt g i) (tl g r i 1)
theorem PG_G1 {g r : Nat → Int32} {J : Nat} (hr : G1 r) (hP : PG g r J) : ∀ i, i ≤ J → G1 (tl g r i) := by
  intro i
  induction i with
  | zero => intro _; exact hr
  | succ i ih =>
    intro h
    exact G1_tell (ih (by omega)) (hP i (by omega))
theorem PG_s {f r : Nat → Int32} {j : Nat} {it : It4} (hP : PG f r j) (h : itOk it (tl f r j 1)) : PG (u4 f j it) r (j + 1) := by
  intro i hi
  rw [tl_u4 f r j it i (by omega)]
  by_cases e : i = j
  · subst e; rw [u4_at]; exact h
  · rw [u4_ne f it (by omega)]; exact hP i (by omega)
theorem tell_1 {r : Nat → Int32} {it : It4} (hG : G1 r) (h : itOk it (r 1)) : tellR it r 1 = (bif decide (it.1 < 10) then r 1 + 1 else r 1) := by
  rcases h with ⟨h1, h2⟩ | h1 | ⟨h1, h2⟩ | ⟨h1, h2, h3, h4, h5⟩
  · unfold tellR
    rw [h1]
    exact upf_ne _ _ (by omega)
  · unfold tellR
    rw [h1]
    show upf r 3 it.2.1 1 = r 1
    exact upf_ne _ _ (by omega)
  · unfold tellR
    rw [h1]
    show upf r 4 it.2.1 1 = r 1
    exact upf_ne _ _ (by omega)
  · have hl : it.1 < 10 := by
      obtain ⟨m, hm, e⟩ := h1
      rw [e]
      exact nI_lt (a := m) (b := 10) (by omega) (by decide)
    rw [tell_k h1, decide_eq_true hl, mR_1]
    have := hG.n1
    show nI ((r 1).toNatClampNeg + 1) = r 1 + 1
    rw [← nI_1, ← this]
def FZ (μ ν : Mem) : Prop := (∀ i, ¬ i = 49 → ¬ i = 50 → ¬ i = 55 → ν i = μ i) ∧ ν 49 3 = μ 49 3 ∧ ν 49 8 = 0
def KP (r : Nat → Int32) (o : Nat ⊕ (Nat × (Nat → Int32))) (μ : Mem) (k : Rtn) (X : Option Rz) : Prop := match o with
  | .inl x => ∀ ν, FZ μ ν → ν 50 = μ 50 → k (some (.int (-1 - nI x))) ν = X
  | .inr q => ∀ ν, FZ μ ν → ν 50 = tl q.2 r q.1 → k (some (.int (nI q.1))) ν = X
set_option maxRecDepth 100000 in
theorem mt_loop {k : Rtn} {X : Option Rz} {μ : Mem} {r g : Nat → Int32} {J : Nat} (hJ : J ≤ 62) (hr : G1 r) (hP : PG g r J) (hk : ∀ ν, FZ μ ν → ν 50 = tl g r J → k (some (.int (nI J))) ν = X) :
    ∀ (m i f : Nat) (x : Int32) (ν : Mem), i + m = J → 60 * m + 60 ≤ f → x = nI i → FZ μ ν → ν 49 16 = nI J → ν 55 = g → ν 50 = tl g r i → lockO (oILd 1 112) 0 (runK P_X5_text f k) k [some (.ref 49), some (.int x)] [] ν = X := by
  intro m
  induction m with
  | zero =>
    intro i f x ν hi hf hx hF h16 h55 h50
    obtain ⟨F, rfl⟩ : ∃ F, f = F + 60 := ⟨f - 60, by omega⟩
    subst hx
    have e : i = J := by omega
    subst e
    have hh := hk ν hF h50
    rw [← h16] at hh
    refine unO ?_
    refine brF (by rw [h16]; exact nI_nlt (Nat.le_refl _) (by omega)) ?_
    exact hh
  | succ m ih =>
    intro i f x ν hi hf hx hF h16 h55 h50
    obtain ⟨F, rfl⟩ : ∃ F, f = F + 60 := ⟨f - 60, by omega⟩
    subst hx
    refine unO ?_
    refine brT (by rw [h16]; exact nI_lt (by omega) (by omega)) ?_
    refine e_toldSo (i := i) (by omega) (show (4 : Int32) * nI i = nI (4 * i) by rw [show (4 : Int32) = nI 4 from rfl, pk_mul]) (by rw [h50]; exact PG_G1 hr hP i (by omega)) (by rw [h55, h50]; exact hP i (by omega)) (fun ν1 e1 => ?_)
    refine ih (i + 1) _ _ ν1 (by omega) (by omega) (nI_succ i).symm ⟨fun a b c d => ?_, ?_, ?_⟩ ?_ ?_ ?_
    · rw [e1, up1_ne _ _ c]; exact hF.1 a b c d
    · rw [e1, up1_ne _ _ (by decide)]; exact hF.2.1
    · rw [e1, up1_ne _ _ (by decide)]; exact hF.2.2
    · rw [e1, up1_ne _ _ (by decide)]; exact h16
    · rw [e1, up1_ne _ _ (by decide)]; exact h55
    · rw [e1, up1_at, h55, h50]; rfl
theorem pT_s (tp : Nat → Int32) (n : Nat) (r : Nat → Int32) (m p j : Nat) (f : Nat → Int32) : pT tp n r (m + 1) p j f = match pItem tp n p (tl f r j 1) with
    | .inl x => .inl x
    | .inr q => bif decide (srt tp n q.1 = 0) then .inr (j + 1, u4 f j q.2) else bif decide (srt tp n q.1 = 3) && decide (tp (bg tp n q.1) = 59) then pT tp n r m (en tp n q.1) (j + 1) (u4 f j q.2) else .inl (bg tp n q.1) := rfl
theorem FZ_of {μ ν : Mem} (hF : FB μ ν) : FZ μ (up2 ν 49 8 0) := ⟨fun i a _ d => (up2_ne _ _ a).trans (hF.1 i a d), hF.2.1, rfl⟩
set_option maxRecDepth 100000 in
theorem rdW {k : Rtn} {X : Option Rz} {μ ν : Mem} {x F : Nat} (hF : FB μ ν) (h13 : ν 49 13 = 1) (h9 : ν 49 9 = nI x) (hk : ∀ ν, FZ μ ν → ν 50 = μ 50 → k (some (.int (-1 - nI x))) ν = X) (hf : 60 ≤ F) : runK P_X5_text F k 74 [some (.ref 49), none] [] ν = X := by
  obtain ⟨G, rfl⟩ : ∃ G, F = G + 60 := ⟨F - 60, by omega⟩
  have fin : ∀ ν2 : Mem, FG 49 [13] ν ν2 → ν2 49 13 = 1 → k (some (.int (-1 - ν2 49 9))) (up2 ν2 49 8 0) = X := by
    intro ν2 f2 w2
    have e9 : ν2 49 9 = nI x := by rw [f2.2 9 (by decide)]; exact h9
    rw [e9]
    have hb := hF.tr (FB.fg f2 (by decide) (by decide))
    exact hk _ (FZ_of hb) ((up2_ne _ _ (by decide)).trans (hb.1 50 (by decide) (by decide)))
  refine br (fun q => ?_) (fun q => ?_)
  · refine e_mustW h13 (fun ν2 f2 w2 => ?_)
    have n2 : ¬ ν2 49 13 = 0 := by rw [w2]; decide
    refine brF n2 ?_
    exact fin ν2 f2 w2
  · refine e_mustW h13 (fun ν2 f2 w2 => ?_)
    have n2 : ¬ ν2 49 13 = 0 := by rw [w2]; decide
    refine brF n2 ?_
    exact fin ν2 f2 w2
set_option maxRecDepth 100000 in
theorem rdN {k : Rtn} {X : Option Rz} {μ ν : Mem} {x F : Nat} (hF : FB μ ν) (h13 : ν 49 13 = 0) (h11 : ¬ ν 49 11 = 0) (h9 : ν 49 9 = nI x) (hk : ∀ ν, FZ μ ν → ν 50 = μ 50 → k (some (.int (-1 - nI x))) ν = X) (hf : 60 ≤ F) : runK P_X5_text F k 74 [some (.ref 49), none] [] ν = X := by
  obtain ⟨G, rfl⟩ : ∃ G, F = G + 60 := ⟨F - 60, by omega⟩
  refine brF h11 ?_
  refine e_must0 h13 (fun ν2 f2 w2 => ?_)
  have n2 : ¬ ν2 49 13 = 0 := by rw [w2]; decide
  have e9 : ν2 49 9 = nI x := by rw [f2.2 9 (by decide)]; exact h9
  have hb := hF.tr (FB.fg f2 (by decide) (by decide))
  have fin := hk _ (FZ_of hb) ((up2_ne _ _ (by decide)).trans (hb.1 50 (by decide) (by decide)))
  rw [← e9] at fin
  refine brF n2 ?_
  exact fin
set_option maxRecDepth 100000 in
theorem rdA {k : Rtn} {X : Option Rz} {μ ν1 : Mem} {x F : Nat} (hF : FB μ ν1) (h13 : ν1 49 13 = 1) (h9 : ν1 49 9 = nI x) (hk : ∀ ν, FZ μ ν → ν 50 = μ 50 → k (some (.int (-1 - nI x))) ν = X) : runK P_X5_text (F + 100) k 33 [some (.ref 49), none] [] ν1 = X := by
  have n1 : ¬ ν1 49 13 = 0 := by rw [h13]; decide
  refine unO ?_
  refine brF n1 ?_
  exact rdW hF h13 h9 hk (by omega)
set_option maxRecDepth 100000 in
theorem rdB {tp : Nat → Int32} {n : Nat} {k : Rtn} {X : Option Rz} {μ ν1 : Mem} {r g : Nat → Int32} {p J F : Nat} (hn : n ≤ 120) (hV : ∀ j, j < n → VB (tp j) 255) (hr : G1 r) (h50 : μ 50 = r) (hp : p ≤ n) (hB : MB tp n ν1) (hM : TM tp n ν1 p) (h13 : ν1 49 13 = 0) (s0 : srt tp n p = 0) (hF : FB μ ν1) (hJ : J ≤ 62) (h16 : ν1 49 16 = nI J) (h55 : ν1 55 = g) (hP : PG g r J) (hk : ∀ ν, FZ μ ν → ν 50 = tl g r J → k (some (.int (nI J))) ν = X) (hf : 60 * J + 60 ≤ F) : runK P_X5_text (F + 100) k 33 [some (.ref 49), none] [] ν1 = X := by
  have g11 : ¬ ν1 49 11 = 3 := by rw [hM.2.2.1, s0]; decide
  have g0 : ν1 49 11 = 0 := hM.2.2.1.trans s0
  refine unO ?_
  refine brT h13 ?_
  refine brF g11 ?_
  refine brT g0 ?_
  refine e_must1 hn hV hp hB hM h13 (fun ν2 f2 m2 z2 => ?_)
  refine brT z2 ?_
  have hF2 := hF.tr (FB.fg f2 (by decide) (by decide))
  refine mt_loop (g := g) (J := J) hJ hr hP hk J 0 _ _ _ (by omega) (by omega) rfl (FZ_of hF2) ?_ ?_ ?_
  · show ν2 49 16 = _
    rw [f2.2 16 (by decide)]; exact h16
  · show ν2 55 = _
    rw [f2.1 55 (by decide)]; exact h55
  · show ν2 50 = r
    rw [hF2.1 50 (by decide) (by decide)]; exact h50
set_option maxRecDepth 100000 in
theorem j71 {k : Rtn} {F : Nat} {ls : LSt} {st : List Value} {μ : Mem} : runK P_X5_text (F + 1) k 71 ls st μ = runK P_X5_text F k 33 ls st μ := rfl
set_option maxRecDepth 100000 in
theorem rdC {tp : Nat → Int32} {n : Nat} {k : Rtn} {X : Option Rz} {ν1 : Mem} {p F : Nat} (hn : n ≤ 120) (hV : ∀ j, j < n → VB (tp j) 255) (hp : p ≤ n) (hB : MB tp n ν1) (hM : TM tp n ν1 p) (h13 : ν1 49 13 = 0) (s3 : srt tp n p = 3) (s9 : tp (bg tp n p) = 59) (hb : bg tp n p < n) (hk : ∀ (ν2 : Mem) (k2 : Rtn), FG 49 [9, 10, 11, 12, 13] ν1 ν2 → TM tp n ν2 (en tp n p) → ν2 49 13 = 0 → (∃ F2, (∀ ν', k2 none ν' = runK P_X5_text F2 k 33 [some (.ref 49), none] [] ν') ∧ F ≤ F2) → S_X5_readItem [.ref 49] ν2 k2 = X) : runK P_X5_text (F + 100) k 33 [some (.ref 49), none] [] ν1 = X := by
  have g3 : ν1 49 11 = 3 := hM.2.2.1.trans s3
  have gi : inB (ν1 49 9) 120 = true := by rw [hM.1]; exact inB_nI (by omega) (by decide)
  have gx : ν1 54 (ν1 49 9).toNatClampNeg = tp (bg tp n p) := by rw [hM.1, nI_cl (by omega)]; exact hB.2 _ hb
  refine unO ?_
  refine brT h13 ?_
  refine brT g3 ?_
  refine (@bfT _ _ _ _ _ (gi)) ?_
  refine brT (gx.trans s9) ?_
  refine e_must1 hn hV hp hB hM h13 (fun ν2 f2 m2 z2 => ?_)
  refine hk ν2 _ f2 m2 z2 ?_
  exact ⟨F + 80, fun _ => j71, by omega⟩
set_option maxRecDepth 100000 in
theorem rdD {tp : Nat → Int32} {n : Nat} {k : Rtn} {X : Option Rz} {μ ν1 : Mem} {p F : Nat} (hn : n ≤ 120) (hB : MB tp n ν1) (hM : TM tp n ν1 p) (h13 : ν1 49 13 = 0) (s3 : srt tp n p = 3) (s9 : ¬ tp (bg tp n p) = 59) (hb : bg tp n p < n) (hF : FB μ ν1) (hk : ∀ ν, FZ μ ν → ν 50 = μ 50 → k (some (.int (-1 - nI (bg tp n p)))) ν = X) : runK P_X5_text (F + 100) k 33 [some (.ref 49), none] [] ν1 = X := by
  have g3 : ν1 49 11 = 3 := hM.2.2.1.trans s3
  have g0 : ¬ ν1 49 11 = 0 := by rw [g3]; decide
  have gi : inB (ν1 49 9) 120 = true := by rw [hM.1]; exact inB_nI (by omega) (by decide)
  have gx : ν1 54 (ν1 49 9).toNatClampNeg = tp (bg tp n p) := by rw [hM.1, nI_cl (by omega)]; exact hB.2 _ hb
  refine unO ?_
  refine brT h13 ?_
  refine brT g3 ?_
  refine (@bfT _ _ _ _ _ (gi)) ?_
  refine brF (fun z => s9 (gx.symm.trans z)) ?_
  exact rdN hF h13 g0 hM.1 hk (by omega)
set_option maxRecDepth 100000 in
theorem rdE {tp : Nat → Int32} {n : Nat} {k : Rtn} {X : Option Rz} {μ ν1 : Mem} {p F : Nat} (hM : TM tp n ν1 p) (h13 : ν1 49 13 = 0) (s3 : ¬ srt tp n p = 3) (s0 : ¬ srt tp n p = 0) (hF : FB μ ν1) (hk : ∀ ν, FZ μ ν → ν 50 = μ 50 → k (some (.int (-1 - nI (bg tp n p)))) ν = X) : runK P_X5_text (F + 100) k 33 [some (.ref 49), none] [] ν1 = X := by
  have g3 : ¬ ν1 49 11 = 3 := by rw [hM.2.2.1]; exact s3
  have g0 : ¬ ν1 49 11 = 0 := by rw [hM.2.2.1]; exact s0
  refine unO ?_
  refine brT h13 ?_
  refine brF g3 ?_
  exact rdN hF h13 g0 hM.1 hk (by omega)
set_option maxRecDepth 100000 in
theorem e_rd {tp : Nat → Int32} {n : Nat} {k : Rtn} {X : Option Rz} {μ : Mem} {r : Nat → Int32} (hn : n ≤ 120) (hV : ∀ j, j < n → VB (tp j) 255) (hr : G1 r) (h50 : μ 50 = r) :
    ∀ (m p j : Nat) (f : Nat → Int32) (ν : Mem) (k2 : Rtn), m + j = 62 → 2 * j ≤ bg tp n p → p ≤ n → MB tp n ν → TM tp n ν p → ν 49 13 = 0 → ν 49 16 = nI j → ν 49 17 = tl f r j 1 → ν 55 = f → FB μ ν → PG f r j → KP r (pT tp n r m p j f) μ k X → (∃ F, (∀ ν', k2 none ν' = runK P_X5_text F k 33 [some (.ref 49), none] [] ν') ∧ 100 * m + 5000 ≤ F) → S_X5_readItem [.ref 49] ν k2 = X := by
  intro m
  induction m with
  | zero =>
    intro p j f ν k2 hm hj hp
    have := bg_b (tp := tp) hp
    omega
  | succ m ih =>
    intro p j f ν k2 hm hj hp hB hM h13 h16 h17 h55 hF hP hk hE
    obtain ⟨F, hk2, hf⟩ := hE
    obtain ⟨G, rfl⟩ : ∃ G, F = G + 100 := ⟨F - 100, by omega⟩
    have hb := pItem_b (tp := tp) (c := tl f r j 1) hp
    have hbg := bg_b (tp := tp) hp
    rw [pT_s] at hk
    refine e_rItem hn hV hp hB hM h13 (by omega) h16 h17 ?_
    cases ho : pItem tp n p (tl f r j 1) with
    | inl x =>
      rw [ho] at hk
      intro ν1 w1
      rw [hk2]
      exact rdA (hF.tr w1.1) w1.2.1 w1.2.2 hk
    | inr q =>
      rw [ho] at hk hb
      obtain ⟨⟨q1, q2⟩, q3⟩ := hb
      intro ν1 w1
      obtain ⟨o1, o2, o3, o4, o5, o6⟩ := w1
      have hF1 := hF.tr o1
      have hB1 := hB.fb o1
      have hbq := bg_b (tp := tp) q2
      have heq := en_b (tp := tp) q2
      rw [h55] at o5
      rw [← tell_1 (PG_G1 hr hP j (Nat.le_refl _)) q3, ← tl_s f r j q.2] at o6
      have hP1 := PG_s hP q3
      rw [hk2]
      change KP r (bif decide (srt tp n q.1 = 0) then _ else _) μ k X at hk
      by_cases s0 : srt tp n q.1 = 0
      · rw [decide_eq_true s0, cond_true] at hk
        exact rdB hn hV hr h50 q2 hB1 o2 o3 s0 hF1 (J := j + 1) (by omega) o4 o5 hP1 hk (by omega)
      · rw [decide_eq_false s0, cond_false] at hk
        by_cases s3 : srt tp n q.1 = 3
        · have es := en_s (tp := tp) (n := n) (p := q.1) s0
          by_cases s9 : tp (bg tp n q.1) = 59
          · rw [decide_eq_true s3, decide_eq_true s9, Bool.and_true, cond_true] at hk
            have hb3 := bg_b (tp := tp) heq.2
            refine rdC hn hV q2 hB1 o2 o3 s3 s9 es.1 (fun ν2 k3 f2 m2 z2 hE => ?_)
            obtain ⟨F2, e2, l2⟩ := hE
            exact ih (en tp n q.1) (j + 1) (u4 f j q.2) ν2 k3 (by omega) (by omega) heq.2 (hB1.fg (by decide) f2) m2 z2 (by rw [f2.2 16 (by decide)]; exact o4) (by rw [f2.2 17 (by decide)]; exact o6) (by rw [f2.1 55 (by decide)]; exact o5) (hF1.tr (FB.fg f2 (by decide) (by decide))) hP1 hk ⟨F2, e2, by omega⟩
          · rw [decide_eq_false s9, Bool.and_false, cond_false] at hk
            exact rdD hn hB1 o2 o3 s3 s9 es.1 hF1 hk
        · rw [decide_eq_false s3, Bool.false_and, cond_false] at hk
          exact rdE o2 o3 s3 s0 hF1 hk
set_option maxRecDepth 100000 in
theorem e_text {μ : Mem} {k : Rtn} {X : Option Rz} {tp : Nat → Int32} {n : Nat} (hn : n ≤ 120) (hV : ∀ j, j < n → VB (tp j) 255) (hB : MB tp n μ) (hG : G1 (μ 50)) (hk : KP (μ 50) (pT tp n (μ 50) 62 0 0 (μ 55)) μ k X) : S_X5_text [.ref 49] μ k = X := by
  have F0 : FG 49 [10, 13, 16, 17] μ (up2 (up2 (up2 (up2 μ 49 10 0) 49 13 0) 49 16 0) 49 17 (μ 50 1)) := (((FG.rf.up (by decide)).up (by decide)).up (by decide)).up (by decide)
  refine unl (bfT rfl ?_)
  refine e_token (tp := tp) (n := n) (p := 0) hn hV (Nat.zero_le _) (hB.fg (by decide) F0) rfl (fun ν1 f1 t1 => ?_)
  refine e_rd (tp := tp) (n := n) (r := μ 50) (μ := μ) hn hV hG rfl 62 0 0 (μ 55) ν1 _ (by omega) (by omega) (Nat.zero_le _) ((hB.fg (by decide) F0).fg (by decide) f1) t1 ?_ ?_ ?_ ?_ ((FB.fg F0 (by decide) (by decide)).tr (FB.fg f1 (by decide) (by decide))) (fun i hi => absurd hi (by omega)) hk ?_
  · rw [f1.2 13 (by decide)]; rfl
  · rw [f1.2 16 (by decide)]; rfl
  · rw [f1.2 17 (by decide)]; rfl
  · rw [f1.1 55 (by decide)]; rfl
  · exact ⟨_, fun _ => rfl, fu2 (by omega) rfl⟩
