/-! answers, calls, contracts -/
def rmD (d : Nat) : Room := { frames := d, cells := 0, slots := 0, locals := 40 * d }
def wsOf (y : MethodName) (cc : ByteArray) (maxL : Nat) (ret : Option FieldType) : List Cond := Cond.code y cc maxL ret :: TW
def Wst (G : Gm) (μ : Mem) (U : State) : Prop := va_P G.1 classes (wld G μ) U.heap ∧ va_K G.1 classes (tysOf G) U ∧ (∀ i j, i < NC → j < NC → G.2.1 i = G.2.1 j → i = j) ∧ (∀ w ∈ NW, va_Nw w U) ∧ STR G (AA G U.heap.size) U U.heap
def CTD (l : Launch) (G : Gm) (y : MethodName) (ws : List Cond) (d : Nat) (as : List Value) (μ : Mem) (r : Option Value) (μ' : Mem) : Prop :=
  ∀ sz : Nat, Met l y ws (rmD d) (va_Pc (as.map (cv G)) (fun U => U.heap.size = sz ∧ Wst G μ U)) (fun _ st oc t => (oc = .returned (r.map (cv G)) ∧ va_P G.1 classes (wld G μ') t.heap) ∧ va_F (AA G sz) st t) 0 0 (AA G sz)
/-- what a callee means, and that it has a contract -/
def SemU (l : Launch) (G : Gm) (y : MethodName) (ws : List Cond) (d : Nat) (S : Sem) : Prop :=
  ∀ (as : List Value) (μ : Mem), (∃ (r : Option Value) (μ' : Mem), (∀ k : Rtn, S as μ k = k r μ') ∧ CTD l G y ws d as μ r μ') ∨ (∀ k : Rtn, S as μ k = none)
theorem TW_good {w : Cond} (h : w ∈ TW) : ((w.onTables && w.keeps) = true ∨ ∃ ty, w = .arrayClass ty) := good_of_word (List.mem_filter.mp h).2
theorem good_ws {y : MethodName} {cc : ByteArray} {maxL : Nat} {ret : Option FieldType} (h : Cond.code y cc maxL ret ∈ TW) : GoodIn TW (wsOf y cc maxL ret) := by
  intro w hw
  rcases List.mem_cons.mp hw with e | e
  · subst e; exact ⟨h, TW_good h⟩
  · exact ⟨e, TW_good e⟩
theorem NW_warm {s U : State} (hW : s.WarmedH U.vm) (h : ∀ w ∈ NW, va_Nw w s) : ∀ w ∈ NW, va_Nw w U := by
  intro w hw
  have h1 := h w hw
  have h2 := (List.mem_filter.mp hw).2
  unfold isNest at h2
  split at h2
  · exact h1.warmF hW
  · exact h1.warmM hW
  · cases h2
theorem NW_tab {w : Cond} (hw : w ∈ NW) : w.onTables = true := by
  have h2 := (List.mem_filter.mp hw).2
  unfold isNest at h2
  split at h2
  · rfl
  · rfl
  · cases h2
theorem STR_call {G : Gm} {A B : Nat → Prop} {s U : State} {H : Heap} {locs : List Loc} (h : STR G A s s.heap) (hS : va_S A s.heap H locs) (hAB : ∀ q, B q → A q) (hU : U.heap = H) (hW : s.WarmedH U.vm) : STR G B U U.heap := by
  obtain ⟨h1, h2, h3, h4⟩ := h
  rw [hU]
  exact ⟨((h1.kept hS.2.1).moved hW.alike).narrow hAB, ((h2.kept hS.2.1).moved hW.alike).narrow hAB, ((h3.kept hS.2.1).moved hW.alike).narrow hAB, fun q hq => (h4 q hq).warm hW⟩
theorem Wst_call {G : Gm} {A : Nat → Prop} {μ : Mem} {s U : State} {H : Heap} {locs : List Loc} (hI : HI s G A μ H locs) (hK : va_K G.1 classes (tysOf G) s) (hi : ∀ i j, i < NC → j < NC → G.2.1 i = G.2.1 j → i = j) (hN : ∀ w ∈ NW, va_Nw w s) (hT : STR G A s s.heap) (hA : ∀ q, AA G H.size q → A q) (hU : U.heap = H) (hW : s.WarmedH U.vm) : Wst G μ U := by
  refine ⟨by rw [hU]; exact hI.1, va_K.moved hW.alike hK, hi, NW_warm hW hN, STR_call hT hI.2 ?_ hU hW⟩
  rw [hU]
  exact hA
theorem blindW {G : Gm} {μ : Mem} {av : List Value} {sz : Nat} : FrameBlind (va_Pc av (fun U => U.heap.size = sz ∧ Wst G μ U)) := by
  intro a U g mk ⟨q0, q1, h1, h2, h3, h4, h5, h6, h7, h8⟩
  refine ⟨q0, q1, h1, va_K.moved (u := U) (U := U.calling g mk a) (Vm.Alike.refl U.vm) h2, h3, fun w hw => va_Nw.same (u := U) (U := U.calling g mk a) (NW_tab hw) rfl (h4 w hw), h5.moved (u := U) (U := U.calling g mk a) (Vm.Alike.refl U.vm), h6.moved (u := U) (U := U.calling g mk a) (Vm.Alike.refl U.vm), h7.moved (u := U) (U := U.calling g mk a) (Vm.Alike.refl U.vm), fun q hq => vk_R.same (u := U) (U := U.calling g mk a) rfl (h8 q hq)⟩
theorem AA_in {G : Gm} {A : Nat → Prop} {s : State} {H : Heap} {locs : List Loc} (hA : ∀ i, i < NC → A (G.2.1 i)) (hs : ∀ q, s.heap.size ≤ q → A q) (hS : va_S A s.heap H locs) : ∀ q, AA G H.size q → A q := by
  intro q h
  rcases h with ⟨i, hi, e⟩ | h
  · rw [e]; exact hA i hi
  · exact hs q (Nat.le_trans hS.1 h)
section CALLS
variable {p : Program} {l : Launch} {e : Env} {R : Room} {s : State} {m : MethodId} {args : Array Value} {below : List Frame} {meth : Method} {c : Code} {H : Heap} {locs : List Loc} {cells slots : Nat} {Q : State → Prop} {pc : Nat} {lsA : Array Slot} {rest st0 : List Value} {A A1 : Nat → Prop} {free : Addr → Prop} {G : Gm}
theorem my_call {r : Option Value} {μ' : Mem} (hr : va_Run p l e R s m args below meth c H locs cells slots 0 0 (F0 m pc lsA st0) rest (fun st oc t => (oc = .returned r ∧ va_P G.1 classes (wld G μ') t.heap) ∧ va_F A1 st t) free) (hS : va_S A s.heap H locs) (hA : ∀ q, q < H.size → A1 q → A q) (hf : ∀ q, free q → A q)
    (kk : ∀ (H1 : Heap) (locs1 : List Loc), va_P G.1 classes (wld G μ') H1 → va_S A s.heap H1 locs1 → W p l e R s m args below meth c H1 locs1 cells slots Q (F0 m (pc + 3) lsA (r.toList ++ rest))) : W p l e R s m args below meth c H locs cells slots Q (F0 m pc lsA st0) := by
  intro T hT X
  obtain ⟨v, st₀, t, T', L, h0, X', hL, e1, e2, ⟨⟨hv, hp⟩, hz, hk⟩, st⟩ := hr T hT X
  have hv2 : v = r := by cases hv; rfl
  subst hv2
  rw [h0] at hz hk
  obtain ⟨t2, a1, b1⟩ := kk T'.heap (locs ++ L) (by rw [e1]; exact hp)
    ⟨Nat.le_trans hS.1 (by rw [e1]; exact hz), fun q h1 h2 => by rw [e1, hk q (Nat.lt_of_lt_of_le h1 hS.1) (fun z => h2 (hA q (Nat.lt_of_lt_of_le h1 hS.1) z))]; exact hS.2.1 q h1 h2, fun q hq => by
      rcases List.mem_append.mp hq with h | h
      · exact hS.2.2 q h
      · exact hf _ (hL q h)⟩ T' rfl X'
  exact ⟨t2, st t2 a1, b1⟩
end CALLS
theorem take_rev {st as : List Value} {a i : Nat} (h : (st.take a).reverse = .ref i :: as) : st = as.reverse ++ .ref i :: st.drop a := by
  have h1 : st.take a = as.reverse ++ [.ref i] := by rw [← List.reverse_reverse (st.take a), h]; simp
  conv => lhs; rw [← List.take_append_drop a st, h1]
  simp
theorem rsum_cv (G : Gm) (r : List Value) : ((r.map (cv G)).map fun v => v.category).sum = rsum r := by
  unfold rsum
  rw [List.map_map]
  congr 1
  apply List.map_congr_left
  intro v _
  exact cv_cat G v
theorem toList_cv (G : Gm) (r : Option Value) (rest : List Value) : (r.map (cv G)).toList ++ rest.map (cv G) = (r.toList ++ rest).map (cv G) := by
  cases r <;> rfl
section OPS3
variable {l : Launch} {G : Gm} {R : Room} {nL : Nat} {cc : ByteArray} {own : String} {RX : Nat → LSt → List Value → Mem → Option Value → Mem → Prop} {pc : Nat}
theorem ok_IRet (hd : decode cc pc = .ok (.ireturn, 1)) : OkU (TXm l G R nL cc own) (RXm l G R nL cc own (some .int)) pc oIRet := by
  intro ls st μ
  rcases st with _ | ⟨v, _ | ⟨w, r⟩⟩
  · exact Or.inr (Or.inr (fun _ _ => rfl))
  · cases v with
    | int x => exact Or.inr (Or.inl ⟨some (.int x), μ, fun _ _ => rfl, fun p e s m args below meth c cells slots A hC hr hk H locs lsA hL hI => W.iret hC.1.1 hC.1.2.1 hr (fun t ht hW => ⟨⟨rfl, by rw [ht]; exact hI.1⟩, hI.2.F ht⟩) hI.2.2.2 hd hk⟩)
    | _ => exact Or.inr (Or.inr (fun _ _ => rfl))
  · cases v <;> exact Or.inr (Or.inr (fun _ _ => rfl))
theorem ok_ZRet (hd : decode cc pc = .ok (.ireturn, 1)) : OkU (TXm l G R nL cc own) (RXm l G R nL cc own (some .boolean)) pc oZRet := by
  intro ls st μ
  rcases st with _ | ⟨v, _ | ⟨w, r⟩⟩
  · exact Or.inr (Or.inr (fun _ _ => rfl))
  · cases v with
    | int x =>
      by_cases h0 : x = 0
      · subst h0
        exact Or.inr (Or.inl ⟨some (.int 0), μ, fun _ _ => rfl, fun p e s m args below meth c cells slots A hC hr hk H locs lsA hL hI => W.zret hC.1.1 hC.1.2.1 hr rfl (fun t ht hW => ⟨⟨rfl, by rw [ht]; exact hI.1⟩, hI.2.F ht⟩) hI.2.2.2 hd hk⟩)
      · by_cases h1 : x = 1
        · subst h1
          exact Or.inr (Or.inl ⟨some (.int 1), μ, fun _ _ => rfl, fun p e s m args below meth c cells slots A hC hr hk H locs lsA hL hI => W.zret hC.1.1 hC.1.2.1 hr rfl (fun t ht hW => ⟨⟨rfl, by rw [ht]; exact hI.1⟩, hI.2.F ht⟩) hI.2.2.2 hd hk⟩)
        · exact Or.inr (Or.inr (fun n k => by simp only [oZRet, decide_eq_false h0, decide_eq_false h1, cond_false]))
    | _ => exact Or.inr (Or.inr (fun _ _ => rfl))
  · cases v <;> exact Or.inr (Or.inr (fun _ _ => rfl))
theorem ok_LRet (hd : decode cc pc = .ok (.lreturn, 1)) : OkU (TXm l G R nL cc own) (RXm l G R nL cc own (some .long)) pc oLRet := by
  intro ls st μ
  rcases st with _ | ⟨v, _ | ⟨w, r⟩⟩
  · exact Or.inr (Or.inr (fun _ _ => rfl))
  · cases v with
    | long x => exact Or.inr (Or.inl ⟨some (.long x), μ, fun _ _ => rfl, fun p e s m args below meth c cells slots A hC hr hk H locs lsA hL hI => W.lret hC.1.1 hC.1.2.1 hr (fun t ht hW => ⟨⟨rfl, by rw [ht]; exact hI.1⟩, hI.2.F ht⟩) hI.2.2.2 hd hk⟩)
    | _ => exact Or.inr (Or.inr (fun _ _ => rfl))
  · cases v <;> exact Or.inr (Or.inr (fun _ _ => rfl))
theorem ok_VRet (hd : decode cc pc = .ok (.return_, 1)) : OkU (TXm l G R nL cc own) (RXm l G R nL cc own none) pc oVRet := by
  intro ls st μ
  rcases st with _ | ⟨v, r⟩
  · exact Or.inr (Or.inl ⟨none, μ, fun _ _ => rfl, fun p e s m args below meth c cells slots A hC hr hk H locs lsA hL hI => W.vret hC.1.1 hC.1.2.1 hr (fun t ht hW => ⟨⟨rfl, by rw [ht]; exact hI.1⟩, hI.2.F ht⟩) hI.2.2.2 hd hk⟩)
  · exact Or.inr (Or.inr (fun _ _ => rfl))
theorem ok_CaV {a cl idx nx maxL d : Nat} {y : MethodName} {bytes : ByteArray} {ret : Option FieldType} {S : Sem} (hS : SemU l G y (wsOf y bytes maxL ret) d S) (hcl : cl < 6) (hy : y.cls = Rc cl) (hd : decode cc pc = .ok (.invokevirtual idx, 3))
    (w1 : Cond.methodLink own idx y ∈ TW) (w2 : Cond.instanceMethod y ∈ TW) (w3 : Cond.selects (Rc cl) y y ∈ TW) (w4 : Cond.initialized y.cls ∈ TW) (w5 : Cond.code y bytes maxL ret ∈ TW)
    (hp : y.cls ≠ "java/lang/invoke/MethodHandle" ∧ y.cls ≠ "java/lang/invoke/VarHandle" ∧ (parseMethodDescriptor y.desc).map (fun d => d.parameters.length) = some (a - 1)) (hR : d + 1 ≤ R.frames ∧ 8 + (maxL + 11) + 40 * d ≤ R.locals) (hn : pc + 3 = nx) : OkU (TXm l G R nL cc own) RX pc (oCaV a cl S nx) := by
  intro ls st μ
  subst hn
  cases hT : (st.take a).reverse with
  | nil => exact Or.inr (Or.inr (fun n k => by simp only [oCaV, hT]))
  | cons v as =>
    cases v with
    | ref i =>
      cases hb : (Nat.beq (kd i) cl && (Nat.ble (rsum (st.drop a)) 8 && Nat.beq (as.length + 1) a)) with
      | false => exact Or.inr (Or.inr (fun n k => by simp only [oCaV, hT, bif_and, hb, cond_false]))
      | true =>
        rcases hS (.ref i :: as) μ with ⟨r, μ', h1, h2⟩ | h1
        · refine Or.inl ⟨pc + 3, ls, r.toList ++ st.drop a, μ', fun n k => by simp only [oCaV, hT, bif_and, hb, cond_true, fL_eq, h1]; cases r <;> rfl, fun p e s m args below meth c cells slots A hC Q H locs lsA hL hI kk => ?_⟩
          simp only [Bool.and_eq_true] at hb
          obtain ⟨hk, hi⟩ := kd6 hcl hb.1
          have hlen : as.length + 1 = a := Nat.eq_of_beq_eq_true hb.2.2
          have hAA := AA_in hC.2.2.2.2.1 hC.2.2.2.2.2.1 hI.2
          have hst : st.map (cv G) = (as.map (cv G)).reverse ++ .ref (G.2.1 i) :: (st.drop a).map (cv G) := by
            conv => lhs; rw [take_rev hT]
            simp [cv]
          refine my_call (A1 := AA G H.size) (free := AA G H.size) (rest := (st.drop a).map (cv G)) (va_runV (n := a - 1) (C := Rc cl) (b := G.2.1 i) (As := as.map (cv G)) hC.1 (h2 H.size) ⟨callB_of (a - 1) hC.1.2.2.2.2 (good_ws w5) rfl rfl rfl (hC.1.2.2.2.2 _ w4) (hC.1.2.2.2.2 _ w1) hp hR, hC.1.2.2.2.2 _ w2, hC.1.2.2.2.2 _ w3⟩ ⟨blindW, va_recv hC.2.2.1 hI.1 (cls_at cl hcl) (wldo hcl hk hi), fun U hU hW => ⟨rfl, by rw [hU], Wst_call hI hC.2.2.1 hC.2.2.2.1 hC.2.1 hC.2.2.2.2.2.2.1 hAA hU hW⟩⟩ rfl (by simp; omega) hL.2.1 hst (lv_room (by rw [rsum_cv]; exact Nat.le_of_ble_eq_true hb.2.1)) hd hC.2.2.2.2.2.2.2) hI.2 (fun q _ h => hAA q h) hAA (fun H1 locs1 hP1 hS1 => ?_)
          rw [toList_cv]
          exact kk H1 locs1 lsA hL ⟨hP1, hS1⟩
        · exact Or.inr (Or.inr (fun n k => by simp only [oCaV, hT, bif_and, hb, cond_true, fL_eq, h1]))
    | _ => exact Or.inr (Or.inr (fun n k => by simp only [oCaV, hT]))
theorem ok_CaVN {a cl idx nx maxL d : Nat} {y : MethodName} {host : String} {bytes : ByteArray} {ret : Option FieldType} {S : Sem} (hS : SemU l G y (wsOf y bytes maxL ret) d S) (hcl : cl < 6) (hy : y.cls = Rc cl) (hd : decode cc pc = .ok (.invokevirtual idx, 3))
    (w1 : Cond.methodLinkNest own idx y host ∈ NW) (w2 : Cond.instanceMethod y ∈ TW) (w3 : Cond.selects (Rc cl) y y ∈ TW) (w4 : Cond.initialized y.cls ∈ TW) (w5 : Cond.code y bytes maxL ret ∈ TW)
    (hp : y.cls ≠ "java/lang/invoke/MethodHandle" ∧ y.cls ≠ "java/lang/invoke/VarHandle" ∧ (parseMethodDescriptor y.desc).map (fun d => d.parameters.length) = some (a - 1)) (hR : d + 1 ≤ R.frames ∧ 8 + (maxL + 11) + 40 * d ≤ R.locals) (hn : pc + 3 = nx) : OkU (TXm l G R nL cc own) RX pc (oCaV a cl S nx) := by
  intro ls st μ
  subst hn
  cases hT : (st.take a).reverse with
  | nil => exact Or.inr (Or.inr (fun n k => by simp only [oCaV, hT]))
  | cons v as =>
    cases v with
    | ref i =>
      cases hb : (Nat.beq (kd i) cl && (Nat.ble (rsum (st.drop a)) 8 && Nat.beq (as.length + 1) a)) with
      | false => exact Or.inr (Or.inr (fun n k => by simp only [oCaV, hT, bif_and, hb, cond_false]))
      | true =>
        rcases hS (.ref i :: as) μ with ⟨r, μ', h1, h2⟩ | h1
        · refine Or.inl ⟨pc + 3, ls, r.toList ++ st.drop a, μ', fun n k => by simp only [oCaV, hT, bif_and, hb, cond_true, fL_eq, h1]; cases r <;> rfl, fun p e s m args below meth c cells slots A hC Q H locs lsA hL hI kk => ?_⟩
          simp only [Bool.and_eq_true] at hb
          obtain ⟨hk, hi⟩ := kd6 hcl hb.1
          have hlen : as.length + 1 = a := Nat.eq_of_beq_eq_true hb.2.2
          have hAA := AA_in hC.2.2.2.2.1 hC.2.2.2.2.2.1 hI.2
          have hst : st.map (cv G) = (as.map (cv G)).reverse ++ .ref (G.2.1 i) :: (st.drop a).map (cv G) := by
            conv => lhs; rw [take_rev hT]
            simp [cv]
          refine my_call (A1 := AA G H.size) (free := AA G H.size) (rest := (st.drop a).map (cv G)) (va_runVN (n := a - 1) (C := Rc cl) (b := G.2.1 i) (As := as.map (cv G)) hC.1 (h2 H.size) ⟨va_cnB (a - 1) hC.1.2.2.2.2 (good_ws w5) rfl rfl rfl (hC.2.1 _ w1) (hC.1.2.2.2.2 _ w4) hp hR, hC.1.2.2.2.2 _ w2, hC.1.2.2.2.2 _ w3⟩ ⟨blindW, va_recv hC.2.2.1 hI.1 (cls_at cl hcl) (wldo hcl hk hi), fun U hU hW => ⟨rfl, by rw [hU], Wst_call hI hC.2.2.1 hC.2.2.2.1 hC.2.1 hC.2.2.2.2.2.2.1 hAA hU hW⟩⟩ rfl (by simp; omega) hL.2.1 hst (lv_room (by rw [rsum_cv]; exact Nat.le_of_ble_eq_true hb.2.1)) hd hC.2.2.2.2.2.2.2) hI.2 (fun q _ h => hAA q h) hAA (fun H1 locs1 hP1 hS1 => ?_)
          rw [toList_cv]
          exact kk H1 locs1 lsA hL ⟨hP1, hS1⟩
        · exact Or.inr (Or.inr (fun n k => by simp only [oCaV, hT, bif_and, hb, cond_true, fL_eq, h1]))
    | _ => exact Or.inr (Or.inr (fun n k => by simp only [oCaV, hT]))
theorem ok_CaS {a idx nx maxL d : Nat} {y : MethodName} {bytes : ByteArray} {ret : Option FieldType} {S : Sem} (hS : SemU l G y (wsOf y bytes maxL ret) d S) (hd : decode cc pc = .ok (.invokestatic idx, 3))
    (w1 : Cond.methodLink own idx y ∈ TW) (w2 : Cond.static y ∈ TW) (w4 : Cond.initialized y.cls ∈ TW) (w5 : Cond.code y bytes maxL ret ∈ TW)
    (hp : y.cls ≠ "java/lang/invoke/MethodHandle" ∧ y.cls ≠ "java/lang/invoke/VarHandle" ∧ (parseMethodDescriptor y.desc).map (fun d => d.parameters.length) = some a) (hR : d + 1 ≤ R.frames ∧ 8 + (maxL + 11) + 40 * d ≤ R.locals) (hn : pc + 3 = nx) : OkU (TXm l G R nL cc own) RX pc (oCaS a S nx) := by
  intro ls st μ
  subst hn
  cases hb : (Nat.ble (rsum (st.drop a)) 8 && Nat.beq (st.take a).length a) with
  | false => exact Or.inr (Or.inr (fun n k => by simp only [oCaS, hb, cond_false]))
  | true =>
    rcases hS (st.take a).reverse μ with ⟨r, μ', h1, h2⟩ | h1
    · refine Or.inl ⟨pc + 3, ls, r.toList ++ st.drop a, μ', fun n k => by simp only [oCaS, hb, cond_true, fL_eq, h1]; cases r <;> rfl, fun p e s m args below meth c cells slots A hC Q H locs lsA hL hI kk => ?_⟩
      simp only [Bool.and_eq_true] at hb
      have hlen : (st.take a).length = a := Nat.eq_of_beq_eq_true hb.2
      have hAA := AA_in hC.2.2.2.2.1 hC.2.2.2.2.2.1 hI.2
      have hst : st.map (cv G) = (((st.take a).reverse).map (cv G)).reverse ++ (st.drop a).map (cv G) := by
        conv => lhs; rw [← List.take_append_drop a st]
        simp
      refine my_call (A1 := AA G H.size) (free := AA G H.size) (rest := (st.drop a).map (cv G)) (va_runS (n := a) (As := ((st.take a).reverse).map (cv G)) hC.1 (h2 H.size) ⟨callB_of a hC.1.2.2.2.2 (good_ws w5) rfl rfl rfl (hC.1.2.2.2.2 _ w4) (hC.1.2.2.2.2 _ w1) hp hR, hC.1.2.2.2.2 _ w2⟩ ⟨blindW, fun U hU hW => ⟨rfl, by rw [hU], Wst_call hI hC.2.2.1 hC.2.2.2.1 hC.2.1 hC.2.2.2.2.2.2.1 hAA hU hW⟩⟩ rfl (by rw [List.length_map, List.length_reverse]; exact hlen) hL.2.1 hst (lv_room (by rw [rsum_cv]; exact Nat.le_of_ble_eq_true hb.1)) hd hC.2.2.2.2.2.2.2) hI.2 (fun q _ h => hAA q h) hAA (fun H1 locs1 hP1 hS1 => ?_)
      rw [toList_cv]
      exact kk H1 locs1 lsA hL ⟨hP1, hS1⟩
    · exact Or.inr (Or.inr (fun n k => by simp only [oCaS, hb, cond_true, fL_eq, h1]))
theorem ok_Min {idx nx : Nat} (hd : decode cc pc = .ok (.invokestatic idx, 3)) (w1 : Cond.methodLink own idx Lib.Math.min.name ∈ TW) (w2 : Cond.static Lib.Math.min.name ∈ TW) (w3 : Cond.initialized "java/lang/Math" ∈ TW) (w4 : Cond.code Lib.Math.min.name Lib.Math.min.code 2 (some .int) ∈ TW) (hR : 1 ≤ R.frames ∧ 21 ≤ R.locals) (hn : pc + 3 = nx) : OkU (TXm l G R nL cc own) RX pc (oMin nx) := by
  intro ls st μ
  subst hn
  rcases st with _ | ⟨v, _ | ⟨w, r⟩⟩
  · exact Or.inr (Or.inr (fun _ _ => rfl))
  · cases v <;> exact Or.inr (Or.inr (fun _ _ => rfl))
  · cases v with
    | int y =>
      cases w with
      | int x =>
        cases hb : Nat.ble (rsum r) 8 with
        | false => exact Or.inr (Or.inr (fun n k => by simp only [oMin, hb, cond_false]))
        | true =>
          refine Or.inl ⟨pc + 3, ls, .int (if y < x then y else x) :: r, μ, fun n k => by simp only [oMin, hb, cond_true], fun p e s m args below meth c cells slots A hC Q H locs lsA hL hI kk => ?_⟩
          have h8 : rsum r ≤ 8 := Nat.le_of_ble_eq_true hb
          exact va_mmin hC.1.1 hC.1.2.1 (hC.1.2.2.1.trans hL.2.1.symm) hC.1.2.2.2.1 (hC.1.2.2.2.2 _ w1) (hC.1.2.2.2.2 _ w2) (hC.1.2.2.2.2 _ w3) (hC.1.2.2.2.2 _ w4) hR.1 (by rw [rsum_cv]; omega) hC.2.2.2.2.2.2.2.1 hC.2.2.2.2.2.2.2.2 hd (kk H locs lsA hL hI)
      | _ => exact Or.inr (Or.inr (fun _ _ => rfl))
    | _ => exact Or.inr (Or.inr (fun _ _ => rfl))
theorem ok_Max {idx nx : Nat} (hd : decode cc pc = .ok (.invokestatic idx, 3)) (w1 : Cond.methodLink own idx Lib.Math.max.name ∈ TW) (w2 : Cond.static Lib.Math.max.name ∈ TW) (w3 : Cond.initialized "java/lang/Math" ∈ TW) (w4 : Cond.code Lib.Math.max.name Lib.Math.max.code 2 (some .int) ∈ TW) (hR : 1 ≤ R.frames ∧ 21 ≤ R.locals) (hn : pc + 3 = nx) : OkU (TXm l G R nL cc own) RX pc (oMax nx) := by
  intro ls st μ
  subst hn
  rcases st with _ | ⟨v, _ | ⟨w, r⟩⟩
  · exact Or.inr (Or.inr (fun _ _ => rfl))
  · cases v <;> exact Or.inr (Or.inr (fun _ _ => rfl))
  · cases v with
    | int y =>
      cases w with
      | int x =>
        cases hb : Nat.ble (rsum r) 8 with
        | false => exact Or.inr (Or.inr (fun n k => by simp only [oMax, hb, cond_false]))
        | true =>
          refine Or.inl ⟨pc + 3, ls, .int (if x < y then y else x) :: r, μ, fun n k => by simp only [oMax, hb, cond_true], fun p e s m args below meth c cells slots A hC Q H locs lsA hL hI kk => ?_⟩
          have h8 : rsum r ≤ 8 := Nat.le_of_ble_eq_true hb
          exact va_mmax hC.1.1 hC.1.2.1 (hC.1.2.2.1.trans hL.2.1.symm) hC.1.2.2.2.1 (hC.1.2.2.2.2 _ w1) (hC.1.2.2.2.2 _ w2) (hC.1.2.2.2.2 _ w3) (hC.1.2.2.2.2 _ w4) hR.1 (by rw [rsum_cv]; omega) hC.2.2.2.2.2.2.2.1 hC.2.2.2.2.2.2.2.2 hd (kk H locs lsA hL hI)
      | _ => exact Or.inr (Or.inr (fun _ _ => rfl))
    | _ => exact Or.inr (Or.inr (fun _ _ => rfl))
end OPS3
/-- a method's contract out of a run of the small machine -/
theorem met_of {l : Launch} {G : Gm} {y : MethodName} {cc : ByteArray} {maxL d : Nat} {ret : Option FieldType} {own : String} {P : Nat → Op} (hy : plainName y.cls = true) (hown : y.cls = own) (hP : ∀ pc, OkU (TXm l G (rmD d) maxL cc own) (RXm l G (rmD d) maxL cc own ret) pc (P pc)) {as : List Value} {μ : Mem} {r : Option Value} {μ' : Mem} {n : Nat} (hc : ∀ w ∈ as, w.category = 1) (hlen : as.length ≤ maxL) (h : ∀ k : Rtn, runK P n k 0 (ent as maxL) [] μ = k r μ') : CTD l G y (wsOf y cc maxL ret) d as μ r μ' := by
  intro sz
  refine Met.ofW (cc := cc) (maxL := maxL) (ret := ret) hy rfl ?_
  intro p e s m args below meth c s₁ B hml hv
  obtain ⟨rfl, hsz, hPw, hK, hi, hN, hT⟩ := hv
  subst hsz
  have hts := atoms_spec (ws := wsOf y cc maxL ret) B.pre
  have hC : CxD p (rmD d) s m ((as.map (cv G)).toArray) meth c 0 0 maxL cc own G (AA G s.heap.size) := ⟨⟨B.exec, B.bytes, hml, by rw [← hown]; exact findClass_of_methodNamed B.named, fun w hw => hts w (List.mem_cons_of_mem _ hw)⟩, hN, hK, hi, fun i hi => Or.inl ⟨i, hi, rfl⟩, fun q h => Or.inr h, hT, Nat.zero_le _, Nat.zero_le _⟩
  have hR := run_get comp_m hP (h someR)
  rw [lg_entry_eq]
  exact hR p e s m _ below meth c 0 0 (AA G s.heap.size) hC B.returns B.notSynchronized s.heap [] _ (HL_ent hc hlen) ⟨hPw, va_S.rf⟩
/-- a method that is taken as its own code -/
def inl (P : Nat → Op) (n maxL : Nat) : Sem := fun as μ k => bif as.all (fun v => Nat.beq v.category 1) && Nat.ble as.length maxL then fL (ent as maxL) (fun ls => runK P n k 0 ls [] μ) else none
theorem sem_inl {l : Launch} {G : Gm} {y : MethodName} {cc : ByteArray} {maxL d : Nat} {ret : Option FieldType} {own : String} {P : Nat → Op} (n : Nat) (hy : plainName y.cls = true) (hown : y.cls = own) (hP : ∀ pc, OkU (TXm l G (rmD d) maxL cc own) (RXm l G (rmD d) maxL cc own ret) pc (P pc)) : SemU l G y (wsOf y cc maxL ret) d (inl P n maxL) := by
  intro as μ
  cases hb : (as.all (fun v => Nat.beq v.category 1) && Nat.ble as.length maxL) with
  | false => exact Or.inr (fun k => by simp only [inl, hb, cond_false])
  | true =>
    have hb2 := hb
    rw [Bool.and_eq_true] at hb2
    rcases run_fac comp_m hP n 0 (ent as maxL) [] μ with ⟨r, μ', g1, -⟩ | g1
    · exact Or.inl ⟨r, μ', fun k => by simp only [inl, hb, cond_true, fL_eq, g1], met_of hy hown hP (fun w hw => Nat.eq_of_beq_eq_true (List.all_eq_true.mp hb2.1 w hw)) (Nat.le_of_ble_eq_true hb2.2) g1⟩
    · exact Or.inr (fun k => by simp only [inl, hb, cond_true, fL_eq, g1])
theorem sem_lock {l : Launch} {G : Gm} {y : MethodName} {ws : List Cond} {d : Nat} {S : Sem} (h : SemU l G y ws d S) : SemU l G y ws d (lockS S 0) := by rw [lockS_eq]; exact h
