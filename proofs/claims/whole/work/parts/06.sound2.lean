/-! memory, switches, answers, calls -/
theorem selT_tab (x : Int32) (d : Nat) : ∀ (cs : List (Int32 × Nat)) (lo : Int), cs.map (fun q => q.1.toInt) = (List.range cs.length).map (fun j : Nat => lo + (j : Int)) → (∀ j : Nat, x.toInt = lo + (j : Int) → ∀ t, (cs.map (fun q => q.2))[j]? = some t → selT x d cs = t) ∧ (x.toInt < lo ∨ lo + (cs.length : Int) ≤ x.toInt → selT x d cs = d) := by
  intro cs
  induction cs with
  | nil =>
    intro lo _
    exact ⟨fun j _ t h => (by cases h), fun _ => rfl⟩
  | cons a r ih =>
    intro lo h
    obtain ⟨c, t0⟩ := a
    have hlen : (List.range ((c, t0) :: r).length).map (fun j : Nat => lo + (j : Int)) = lo :: (List.range r.length).map (fun j : Nat => (lo + 1) + (j : Int)) := by
      rw [List.length_cons, List.range_succ_eq_map, List.map_cons, List.map_map]
      refine congr (congrArg List.cons (by simp)) ?_
      apply List.map_congr_left
      intro j _
      simp only [Function.comp, Nat.succ_eq_add_one]
      omega
    rw [hlen, List.map_cons] at h
    have h1 : c.toInt = lo := (List.cons.inj h).1
    obtain ⟨g1, g2⟩ := ih (lo + 1) (List.cons.inj h).2
    refine ⟨fun j hj t ht => ?_, fun hx => ?_⟩
    · unfold selT
      cases j with
      | zero =>
        have e : x = c := Int32.toInt_inj.mp (by rw [hj, h1]; simp)
        rw [if_pos e]
        exact Option.some.inj ht
      | succ j =>
        have e : ¬ x = c := fun e => by rw [e, h1] at hj; omega
        rw [if_neg e]
        exact g1 j (by omega) t ht
    · unfold selT
      have e : ¬ x = c := fun e => by rw [e, h1] at hx; simp only [List.length_cons] at hx; omega
      rw [if_neg e]
      exact g2 (by simp only [List.length_cons] at hx; omega)
theorem selT_look (x : Int32) (d : Nat) (pc : Int) (df : Int) (hdf : pc + df = (d : Int)) : ∀ (cs : List (Int32 × Nat)), pc + Op.lookupswitch.offset (cs.map (fun q => (q.1.toInt, (q.2 : Int) - pc))) df x.toInt = ((selT x d cs : Nat) : Int) := by
  intro cs
  induction cs with
  | nil => exact hdf
  | cons a r ih =>
    obtain ⟨c, t0⟩ := a
    rw [List.map_cons, Op.lookupswitch.offset_cons]
    unfold selT
    by_cases e : x = c
    · subst e
      rw [if_pos rfl, if_pos rfl]
      omega
    · rw [if_neg e, if_neg (fun q => e (Int32.toInt_inj.mp q).symm)]
      exact ih
theorem wldo {G : Gm} {μ : Mem} {i c : Nat} (hc : c < 6) (hk : kd i = c) (hi : i < NC) : (wld G μ)[i]? = some (G.2.1 i, .inr (c, flds G.2.1 i c (μ i))) := by rw [wld_at hi, cell_obj hc hk]
theorem wldi {G : Gm} {μ : Mem} {i : Nat} (hk : kd i = 6) (hi : i < NC) : (wld G μ)[i]? = some (G.2.1 i, .inl (G.2.2.1 0, lenOf i, .inl (μ i))) := by rw [wld_at hi, cell_int hk]
theorem wldr {G : Gm} {μ : Mem} {i c : Nat} (hc : 6 < c) (hk : kd i = c) (hi : i < NC) : (wld G μ)[i]? = some (G.2.1 i, .inl (G.2.2.1 (c - 6), lenOf i, .inr (.inr (.inr (.inr (fun j => some (G.2.1 (rfOf i j)))))))) := by rw [wld_at hi, cell_ref hc hk]
section OPS2
variable {l : Launch} {G : Gm} {R : Room} {nL : Nat} {cc : ByteArray} {own : String} {RX : Nat → LSt → List Value → Mem → Option Value → Mem → Prop} {pc : Nat}
theorem ok_Tab {dflt lo hi : Int} {offs : Array Int} {len d : Nat} {cs : List (Int32 × Nat)} (hd : decode cc pc = .ok (.tableswitch dflt lo hi offs, len)) (h1 : cs.map (fun q => q.1.toInt) = (List.range cs.length).map (fun j : Nat => lo + (j : Int))) (h2 : offs.toList = cs.map (fun q => ((q.2 : Nat) : Int) - (pc : Int))) (h3 : (pc : Int) + dflt = (d : Int)) (h4 : hi = lo + (cs.length : Int) - 1) : OkU (TXm l G R nL cc own) RX pc (oSw cs d) := by
  intro ls st μ
  rcases st with _ | ⟨v, r⟩
  · exact Or.inr (Or.inr (fun _ _ => rfl))
  · cases v with
    | int x =>
      refine Or.inl ⟨selT x d cs, ls, r, μ, fun n k => selK_eq x d _ cs, fun p e s m args below meth c cells slots A hC Q H locs lsA hL hI kk => ?_⟩
      obtain ⟨g1, g2⟩ := selT_tab x d cs lo h1
      by_cases hx : x.toInt < lo ∨ hi < x.toInt
      · have e := g2 (by omega)
        rw [e] at kk
        exact lv_tableOut hC.1.1 hC.1.2.1 hd hx h3 (kk H locs lsA hL hI)
      · have hj : x.toInt = lo + (((x.toInt - lo).toNat : Nat) : Int) := by omega
        have hlt : (x.toInt - lo).toNat < cs.length := by omega
        have hl2 : (cs.map (fun q => q.2))[(x.toInt - lo).toNat]? = some (cs[(x.toInt - lo).toNat]).2 := by simp [hlt]
        have e := g1 _ hj _ hl2
        rw [e] at kk
        refine lv_tableIn hC.1.1 hC.1.2.1 hd (fun q => hx (Or.inl q)) (fun q => hx (Or.inr q)) (off := (((cs[(x.toInt - lo).toNat]).2 : Nat) : Int) - (pc : Int)) ?_ (by omega) (kk H locs lsA hL hI)
        rw [← Array.getElem?_toList, h2]
        simp [hlt]
    | _ => exact Or.inr (Or.inr (fun _ _ => rfl))
theorem ok_Look {dflt : Int} {ps : Array (Int × Int)} {len d : Nat} {cs : List (Int32 × Nat)} (hd : decode cc pc = .ok (.lookupswitch dflt ps, len)) (hp : (ps.toList.zip (ps.toList.drop 1)).all (fun (a, next) => a.1 < next.1) = true) (h2 : ps.toList = cs.map (fun q => (q.1.toInt, ((q.2 : Nat) : Int) - (pc : Int)))) (h3 : (pc : Int) + dflt = (d : Int)) : OkU (TXm l G R nL cc own) RX pc (oSw cs d) := by
  intro ls st μ
  rcases st with _ | ⟨v, r⟩
  · exact Or.inr (Or.inr (fun _ _ => rfl))
  · cases v with
    | int x =>
      refine Or.inl ⟨selT x d cs, ls, r, μ, fun n k => selK_eq x d _ cs, fun p e s m args below meth c cells slots A hC Q H locs lsA hL hI kk => ?_⟩
      exact lv_lookup hC.1.1 hC.1.2.1 hd hp rfl (by rw [h2]; exact selT_look x d pc dflt h3 cs) (kk H locs lsA hL hI)
    | _ => exact Or.inr (Or.inr (fun _ _ => rfl))
theorem kd6 {i c : Nat} (hc : c < 6) (h : Nat.beq (kd i) c = true) : kd i = c ∧ i < NC := by
  have e := Nat.eq_of_beq_eq_true h
  exact ⟨e, kd_lt (by omega)⟩
theorem kd9 {i c : Nat} (hc : c < 10) (h : Nat.beq (kd i) c = true) : kd i = c ∧ i < NC := by
  have e := Nat.eq_of_beq_eq_true h
  exact ⟨e, kd_lt (by omega)⟩
theorem ok_GetI {c f idx nx : Nat} (hc : c < 6) (hf : f < Nf c) (hr : isRf c f = false) (hd : decode cc pc = .ok (.getfield idx, 3)) (hw : Cond.fieldLink own idx (Tc c f).1 (Tc c f).2.1 (Tc c f).2.2.1 ∈ TW) (hn : pc + 3 = nx) : OkU (TXm l G R nL cc own) RX pc (oGetI c f nx) := by
  intro ls st μ
  subst hn
  rcases st with _ | ⟨v, r⟩
  · exact Or.inr (Or.inr (fun _ _ => rfl))
  · cases v with
    | ref i =>
      cases hb : Nat.beq (kd i) c with
      | false => exact Or.inr (Or.inr (fun n k => by simp only [oGetI, hb, cond_false]))
      | true =>
        obtain ⟨hk, hi⟩ := kd6 hc hb
        exact Or.inl ⟨pc + 3, ls, .int (μ i f) :: r, μ, fun n k => by simp only [oGetI, hb, cond_true], fun p e s m args below meth c0 cells slots A hC Q H locs lsA hL hI kk => va_get hC.1.1 hC.1.2.1 hC.1.2.2.2.2 (in_c c hc) hC.1.2.2.2.1 hC.2.2.1 hI.1 i (wldo hc hk hi) (cls_at c hc) f hf (hC.1.2.2.2.2 _ hw) (fun _ h9 => h9) (by rw [flds_get hf, hr, cond_false]; rfl) hd (kk H locs lsA hL hI)⟩
    | _ => exact Or.inr (Or.inr (fun _ _ => rfl))
theorem ok_GetIN {c f idx nx : Nat} {host : String} (hc : c < 6) (hf : f < Nf c) (hr : isRf c f = false) (hd : decode cc pc = .ok (.getfield idx, 3)) (hw : Cond.fieldLinkNest own idx (Tc c f).1 (Tc c f).2.1 (Tc c f).2.2.1 host ∈ NW) (hn : pc + 3 = nx) : OkU (TXm l G R nL cc own) RX pc (oGetI c f nx) := by
  intro ls st μ
  subst hn
  rcases st with _ | ⟨v, r⟩
  · exact Or.inr (Or.inr (fun _ _ => rfl))
  · cases v with
    | ref i =>
      cases hb : Nat.beq (kd i) c with
      | false => exact Or.inr (Or.inr (fun n k => by simp only [oGetI, hb, cond_false]))
      | true =>
        obtain ⟨hk, hi⟩ := kd6 hc hb
        exact Or.inl ⟨pc + 3, ls, .int (μ i f) :: r, μ, fun n k => by simp only [oGetI, hb, cond_true], fun p e s m args below meth c0 cells slots A hC Q H locs lsA hL hI kk => va_getN hC.1.1 hC.1.2.1 hC.1.2.2.2.2 (in_c c hc) hC.1.2.2.2.1 hC.2.2.1 hI.1 i (wldo hc hk hi) (cls_at c hc) f hf ((hC.2.1 _ hw).use rfl) (fun _ h9 => h9) (by rw [flds_get hf, hr, cond_false]; rfl) hd (kk H locs lsA hL hI)⟩
    | _ => exact Or.inr (Or.inr (fun _ _ => rfl))
theorem ok_GetR {c f idx nx : Nat} (hc : c < 6) (hf : f < Nf c) (hr : isRf c f = true) (hd : decode cc pc = .ok (.getfield idx, 3)) (hw : Cond.fieldLink own idx (Tc c f).1 (Tc c f).2.1 (Tc c f).2.2.1 ∈ TW) (hn : pc + 3 = nx) : OkU (TXm l G R nL cc own) RX pc (oGetR c f nx) := by
  intro ls st μ
  subst hn
  rcases st with _ | ⟨v, r⟩
  · exact Or.inr (Or.inr (fun _ _ => rfl))
  · cases v with
    | ref i =>
      cases hb : Nat.beq (kd i) c with
      | false => exact Or.inr (Or.inr (fun n k => by simp only [oGetR, hb, cond_false]))
      | true =>
        obtain ⟨hk, hi⟩ := kd6 hc hb
        exact Or.inl ⟨pc + 3, ls, .ref (rfOf i f) :: r, μ, fun n k => by simp only [oGetR, hb, cond_true], fun p e s m args below meth c0 cells slots A hC Q H locs lsA hL hI kk => va_get hC.1.1 hC.1.2.1 hC.1.2.2.2.2 (in_c c hc) hC.1.2.2.2.1 hC.2.2.1 hI.1 i (wldo hc hk hi) (cls_at c hc) f hf (hC.1.2.2.2.2 _ hw) (fun _ h9 => h9) (by rw [flds_get hf, hr, cond_true]; rfl) hd (kk H locs lsA hL hI)⟩
    | _ => exact Or.inr (Or.inr (fun _ _ => rfl))
theorem ok_GetRN {c f idx nx : Nat} {host : String} (hc : c < 6) (hf : f < Nf c) (hr : isRf c f = true) (hd : decode cc pc = .ok (.getfield idx, 3)) (hw : Cond.fieldLinkNest own idx (Tc c f).1 (Tc c f).2.1 (Tc c f).2.2.1 host ∈ NW) (hn : pc + 3 = nx) : OkU (TXm l G R nL cc own) RX pc (oGetR c f nx) := by
  intro ls st μ
  subst hn
  rcases st with _ | ⟨v, r⟩
  · exact Or.inr (Or.inr (fun _ _ => rfl))
  · cases v with
    | ref i =>
      cases hb : Nat.beq (kd i) c with
      | false => exact Or.inr (Or.inr (fun n k => by simp only [oGetR, hb, cond_false]))
      | true =>
        obtain ⟨hk, hi⟩ := kd6 hc hb
        exact Or.inl ⟨pc + 3, ls, .ref (rfOf i f) :: r, μ, fun n k => by simp only [oGetR, hb, cond_true], fun p e s m args below meth c0 cells slots A hC Q H locs lsA hL hI kk => va_getN hC.1.1 hC.1.2.1 hC.1.2.2.2.2 (in_c c hc) hC.1.2.2.2.1 hC.2.2.1 hI.1 i (wldo hc hk hi) (cls_at c hc) f hf ((hC.2.1 _ hw).use rfl) (fun _ h9 => h9) (by rw [flds_get hf, hr, cond_true]; rfl) hd (kk H locs lsA hL hI)⟩
    | _ => exact Or.inr (Or.inr (fun _ _ => rfl))
theorem wld_put {μ : Mem} {i c f : Nat} {v : Int32} (hc : c < 6) (hk : kd i = c) (hi : i < NC) (hr : isRf c f = false) : (wld G μ).set i (G.2.1 i, .inr (c, (flds G.2.1 i c (μ i)).set f (.int v))) = wld G (up2 μ i f v) := by
  rw [flds_set hr, ← cell_obj hc hk, wld_set hi]
  rfl
theorem ok_PutI {c f idx nx : Nat} (hc : c < 6) (hf : f < Nf c) (hr : isRf c f = false) (hfin : (Tc c f).2.2.2 = false) (hty : parseFieldDescriptor (Tc c f).2.2.1 = some .int) (hd : decode cc pc = .ok (.putfield idx, 3)) (hw : Cond.fieldLink own idx (Tc c f).1 (Tc c f).2.1 (Tc c f).2.2.1 ∈ TW) (hn : pc + 3 = nx) : OkU (TXm l G R nL cc own) RX pc (oPutI c f nx) := by
  intro ls st μ
  subst hn
  rcases st with _ | ⟨v, _ | ⟨w, r⟩⟩
  · exact Or.inr (Or.inr (fun _ _ => rfl))
  · cases v <;> exact Or.inr (Or.inr (fun _ _ => rfl))
  · cases v with
    | int x =>
      cases w with
      | ref i =>
        cases hb : Nat.beq (kd i) c with
        | false => exact Or.inr (Or.inr (fun n k => by simp only [oPutI, hb, cond_false]))
        | true =>
          obtain ⟨hk, hi⟩ := kd6 hc hb
          exact Or.inl ⟨pc + 3, ls, r, up2 μ i f x, fun n k => by simp only [oPutI, hb, cond_true], fun p e s m args below meth c0 cells slots A hC Q H locs lsA hL hI kk => va_put hC.1.1 hC.1.2.1 hC.1.2.2.2.2 (in_c c hc) (tyc c) (ty_c c hc) (nm_c c hc) hC.1.2.2.2.1 hC.2.2.1 hI.1 (wld_D hC.2.2.2.1 hC.2.2.2.2.1) hI.2 i (wldo hc hk hi) (cls_at c hc) f hf (hC.1.2.2.2.2 _ hw) (fun _ h9 => h9) hfin hty (vp_nar_int x) rfl (by rw [flds_len]; exact hf) hd (fun H1 locs1 hP1 _ hS1 => kk H1 locs1 lsA hL ⟨by rw [← wld_put hc hk hi hr]; exact hP1, hS1⟩)⟩
      | _ => exact Or.inr (Or.inr (fun _ _ => rfl))
    | _ => exact Or.inr (Or.inr (fun _ _ => rfl))
theorem ok_PutIN {c f idx nx : Nat} {host : String} (hc : c < 6) (hf : f < Nf c) (hr : isRf c f = false) (hfin : (Tc c f).2.2.2 = false) (hty : parseFieldDescriptor (Tc c f).2.2.1 = some .int) (hd : decode cc pc = .ok (.putfield idx, 3)) (hw : Cond.fieldLinkNest own idx (Tc c f).1 (Tc c f).2.1 (Tc c f).2.2.1 host ∈ NW) (hn : pc + 3 = nx) : OkU (TXm l G R nL cc own) RX pc (oPutI c f nx) := by
  intro ls st μ
  subst hn
  rcases st with _ | ⟨v, _ | ⟨w, r⟩⟩
  · exact Or.inr (Or.inr (fun _ _ => rfl))
  · cases v <;> exact Or.inr (Or.inr (fun _ _ => rfl))
  · cases v with
    | int x =>
      cases w with
      | ref i =>
        cases hb : Nat.beq (kd i) c with
        | false => exact Or.inr (Or.inr (fun n k => by simp only [oPutI, hb, cond_false]))
        | true =>
          obtain ⟨hk, hi⟩ := kd6 hc hb
          exact Or.inl ⟨pc + 3, ls, r, up2 μ i f x, fun n k => by simp only [oPutI, hb, cond_true], fun p e s m args below meth c0 cells slots A hC Q H locs lsA hL hI kk => va_putN hC.1.1 hC.1.2.1 hC.1.2.2.2.2 (in_c c hc) (tyc c) (ty_c c hc) (nm_c c hc) hC.1.2.2.2.1 hC.2.2.1 hI.1 (wld_D hC.2.2.2.1 hC.2.2.2.2.1) hI.2 i (wldo hc hk hi) (cls_at c hc) f hf ((hC.2.1 _ hw).use rfl) (fun _ h9 => h9) hfin hty (vp_nar_int x) rfl (by rw [flds_len]; exact hf) hd (fun H1 locs1 hP1 _ hS1 => kk H1 locs1 lsA hL ⟨by rw [← wld_put hc hk hi hr]; exact hP1, hS1⟩)⟩
      | _ => exact Or.inr (Or.inr (fun _ _ => rfl))
    | _ => exact Or.inr (Or.inr (fun _ _ => rfl))
theorem ok_PutZ {c f idx nx : Nat} (hc : c < 6) (hf : f < Nf c) (hr : isRf c f = false) (hfin : (Tc c f).2.2.2 = false) (hty : parseFieldDescriptor (Tc c f).2.2.1 = some .boolean) (hd : decode cc pc = .ok (.putfield idx, 3)) (hw : Cond.fieldLink own idx (Tc c f).1 (Tc c f).2.1 (Tc c f).2.2.1 ∈ TW) (hn : pc + 3 = nx) : OkU (TXm l G R nL cc own) RX pc (oPutZ c f nx) := by
  intro ls st μ
  subst hn
  rcases st with _ | ⟨v, _ | ⟨w, r⟩⟩
  · exact Or.inr (Or.inr (fun _ _ => rfl))
  · cases v <;> exact Or.inr (Or.inr (fun _ _ => rfl))
  · cases v with
    | int x =>
      cases w with
      | ref i =>
        cases hb : Nat.beq (kd i) c with
        | false => exact Or.inr (Or.inr (fun n k => by simp only [oPutZ, hb, cond_false]))
        | true =>
          obtain ⟨hk, hi⟩ := kd6 hc hb
          by_cases h0 : x = 0
          · subst h0
            exact Or.inl ⟨pc + 3, ls, r, up2 μ i f 0, fun n k => by simp only [oPutZ, hb, cond_true]; rfl, fun p e s m args below meth c0 cells slots A hC Q H locs lsA hL hI kk => va_put hC.1.1 hC.1.2.1 hC.1.2.2.2.2 (in_c c hc) (tyc c) (ty_c c hc) (nm_c c hc) hC.1.2.2.2.1 hC.2.2.1 hI.1 (wld_D hC.2.2.2.1 hC.2.2.2.2.1) hI.2 i (wldo hc hk hi) (cls_at c hc) f hf (hC.1.2.2.2.2 _ hw) (fun _ h9 => h9) hfin hty (by rfl) (by rfl) (by rw [flds_len]; exact hf) hd (fun H1 locs1 hP1 _ hS1 => kk H1 locs1 lsA hL ⟨by rw [← wld_put hc hk hi hr]; exact hP1, hS1⟩)⟩
          · by_cases h1 : x = 1
            · subst h1
              exact Or.inl ⟨pc + 3, ls, r, up2 μ i f 1, fun n k => by simp only [oPutZ, hb, cond_true]; rfl, fun p e s m args below meth c0 cells slots A hC Q H locs lsA hL hI kk => va_put hC.1.1 hC.1.2.1 hC.1.2.2.2.2 (in_c c hc) (tyc c) (ty_c c hc) (nm_c c hc) hC.1.2.2.2.1 hC.2.2.1 hI.1 (wld_D hC.2.2.2.1 hC.2.2.2.2.1) hI.2 i (wldo hc hk hi) (cls_at c hc) f hf (hC.1.2.2.2.2 _ hw) (fun _ h9 => h9) hfin hty (by rfl) (by rfl) (by rw [flds_len]; exact hf) hd (fun H1 locs1 hP1 _ hS1 => kk H1 locs1 lsA hL ⟨by rw [← wld_put hc hk hi hr]; exact hP1, hS1⟩)⟩
            · exact Or.inr (Or.inr (fun n k => by simp only [oPutZ, hb, cond_true, decide_eq_false h0, decide_eq_false h1, cond_false]))
      | _ => exact Or.inr (Or.inr (fun _ _ => rfl))
    | _ => exact Or.inr (Or.inr (fun _ _ => rfl))
theorem inB_of {j : Int32} {n : Nat} (h : inB j n = true) : ¬ j < 0 ∧ j.toNatClampNeg < n := by
  unfold inB at h
  rw [Bool.and_eq_true] at h
  refine ⟨fun q => ?_, blt_lt h.2⟩
  rw [decide_eq_true q] at h
  exact absurd h.1 (by decide)
theorem vp_of {j : Int32} {n : Nat} (h1 : ¬ j < 0) (h2 : j.toNatClampNeg < n) : vp_in j n := fun h => h.elim h1 (fun q => by omega)
theorem ok_IAL {nx : Nat} (hd : decode cc pc = .ok (.iaload, 1)) (hn : pc + 1 = nx) : OkU (TXm l G R nL cc own) RX pc (oIAL nx) := by
  intro ls st μ
  subst hn
  rcases st with _ | ⟨v, _ | ⟨w, r⟩⟩
  · exact Or.inr (Or.inr (fun _ _ => rfl))
  · cases v <;> exact Or.inr (Or.inr (fun _ _ => rfl))
  · cases v with
    | int j =>
      cases w with
      | ref i =>
        cases hb : Nat.beq (kd i) 6 with
        | false => exact Or.inr (Or.inr (fun n k => by simp only [oIAL, hb, cond_false]))
        | true =>
          obtain ⟨hk, hi⟩ := kd9 (by decide) hb
          cases hB : inB j (lenOf i) with
          | false => exact Or.inr (Or.inr (fun n k => by simp only [oIAL, hb, cond_true, hB, cond_false]))
          | true =>
            obtain ⟨h0, h1⟩ := inB_of hB
            exact Or.inl ⟨pc + 1, ls, .int (μ i j.toNatClampNeg) :: r, μ, fun n k => by simp only [oIAL, hb, cond_true, hB], fun p e s m args below meth c0 cells slots A hC Q H locs lsA hL hI kk => va_iald hC.1.1 hC.1.2.1 hC.2.2.1 hI.1 i 0 (wldi hk hi) rfl (vp_of h0 h1) hd (kk H locs lsA hL hI)⟩
      | _ => exact Or.inr (Or.inr (fun _ _ => rfl))
    | _ => exact Or.inr (Or.inr (fun _ _ => rfl))
theorem wld_ast {μ : Mem} {i k : Nat} {v : Int32} (hk : kd i = 6) (hi : i < NC) : (wld G μ).set i (G.2.1 i, .inl (G.2.2.1 0, lenOf i, .inl (upd (μ i) k v))) = wld G (up2 μ i k v) := by
  rw [← upf_upd, ← cell_int hk, wld_set hi]
  rfl
theorem ok_IAS {nx : Nat} (hd : decode cc pc = .ok (.iastore, 1)) (hn : pc + 1 = nx) : OkU (TXm l G R nL cc own) RX pc (oIAS nx) := by
  intro ls st μ
  subst hn
  rcases st with _ | ⟨v, _ | ⟨w, _ | ⟨u, r⟩⟩⟩
  · exact Or.inr (Or.inr (fun _ _ => rfl))
  · cases v <;> exact Or.inr (Or.inr (fun _ _ => rfl))
  · cases v <;> cases w <;> exact Or.inr (Or.inr (fun _ _ => rfl))
  · cases v with
    | int x =>
      cases w with
      | int j =>
        cases u with
        | ref i =>
          cases hb : Nat.beq (kd i) 6 with
          | false => exact Or.inr (Or.inr (fun n k => by simp only [oIAS, hb, cond_false]))
          | true =>
            obtain ⟨hk, hi⟩ := kd9 (by decide) hb
            cases hB : inB j (lenOf i) with
            | false => exact Or.inr (Or.inr (fun n k => by simp only [oIAS, hb, cond_true, hB, cond_false]))
            | true =>
              obtain ⟨h0, h1⟩ := inB_of hB
              exact Or.inl ⟨pc + 1, ls, r, up2 μ i j.toNatClampNeg x, fun n k => by simp only [oIAS, hb, cond_true, hB], fun p e s m args below meth c0 cells slots A hC Q H locs lsA hL hI kk => va_iast hC.1.1 hC.1.2.1 hC.2.2.1 hI.1 (wld_D hC.2.2.2.1 hC.2.2.2.2.1) hI.2 i 0 (wldi hk hi) rfl (vp_of h0 h1) hd (fun H1 locs1 hP1 _ hS1 => kk H1 locs1 lsA hL ⟨by rw [← wld_ast hk hi]; exact hP1, hS1⟩)⟩
        | _ => exact Or.inr (Or.inr (fun _ _ => rfl))
      | _ => exact Or.inr (Or.inr (fun _ _ => rfl))
    | _ => exact Or.inr (Or.inr (fun _ _ => rfl))
theorem tys_at (c : Nat) (h1 : 6 < c) (h2 : c < 10) : ∃ C : String, (tysOf G)[c - 6]? = some (G.2.2.1 (c - 6), .object C) := by
  rcases (by omega : c = 7 ∨ c = 8 ∨ c = 9) with rfl | rfl | rfl
  · exact ⟨_, rfl⟩
  · exact ⟨_, rfl⟩
  · exact ⟨_, rfl⟩
theorem ok_AAL {c nx : Nat} (h6 : 6 < c) (h10 : c < 10) (hd : decode cc pc = .ok (.aaload, 1)) (hn : pc + 1 = nx) : OkU (TXm l G R nL cc own) RX pc (oAAL c nx) := by
  intro ls st μ
  subst hn
  rcases st with _ | ⟨v, _ | ⟨w, r⟩⟩
  · exact Or.inr (Or.inr (fun _ _ => rfl))
  · cases v <;> exact Or.inr (Or.inr (fun _ _ => rfl))
  · cases v with
    | int j =>
      cases w with
      | ref i =>
        cases hb : Nat.beq (kd i) c with
        | false => exact Or.inr (Or.inr (fun n k => by simp only [oAAL, hb, cond_false]))
        | true =>
          obtain ⟨hk, hi⟩ := kd9 h10 hb
          cases hB : inB j (lenOf i) with
          | false => exact Or.inr (Or.inr (fun n k => by simp only [oAAL, hb, cond_true, hB, cond_false]))
          | true =>
            obtain ⟨h0, h1⟩ := inB_of hB
            obtain ⟨C, hC9⟩ := tys_at (G := G) c h6 h10
            exact Or.inl ⟨pc + 1, ls, .ref (rfOf i j.toNatClampNeg) :: r, μ, fun n k => by simp only [oAAL, hb, cond_true, hB], fun p e s m args below meth c0 cells slots A hC Q H locs lsA hL hI kk => va_aldq hC.1.1 hC.1.2.1 hC.2.2.1 hI.1 i (c - 6) (wldr h6 hk hi) hC9 (vp_of h0 h1) hd (kk H locs lsA hL hI)⟩
      | _ => exact Or.inr (Or.inr (fun _ _ => rfl))
    | _ => exact Or.inr (Or.inr (fun _ _ => rfl))
theorem ok_LenR {c nx : Nat} (h6 : 6 < c) (h10 : c < 10) (hd : decode cc pc = .ok (.arraylength, 1)) (hn : pc + 1 = nx) : OkU (TXm l G R nL cc own) RX pc (oLenR c nx) := by
  intro ls st μ
  subst hn
  rcases st with _ | ⟨v, r⟩
  · exact Or.inr (Or.inr (fun _ _ => rfl))
  · cases v with
    | ref i =>
      cases hb : Nat.beq (kd i) c with
      | false => exact Or.inr (Or.inr (fun n k => by simp only [oLenR, hb, cond_false]))
      | true =>
        obtain ⟨hk, hi⟩ := kd9 h10 hb
        obtain ⟨C, hC9⟩ := tys_at (G := G) c h6 h10
        exact Or.inl ⟨pc + 1, ls, .int (Int32.ofNat (lenOf i)) :: r, μ, fun n k => by simp only [oLenR, hb, cond_true], fun p e s m args below meth c0 cells slots A hC Q H locs lsA hL hI kk => va_alen hC.1.1 hC.1.2.1 hC.2.2.1 hI.1 i (c - 6) (wldr h6 hk hi) hC9 rfl hd (kk H locs lsA hL hI)⟩
    | _ => exact Or.inr (Or.inr (fun _ _ => rfl))
end OPS2
