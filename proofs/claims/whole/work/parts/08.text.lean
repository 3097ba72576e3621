/-! texts, rows that are copied, small answers -/
theorem blt_ge {a b : Nat} (h : Nat.blt a b = false) : b ≤ a := by
  rcases Nat.lt_or_ge a b with q | q
  · have : Nat.blt a b = true := Nat.ble_eq_true_of_le q
    rw [this] at h
    cases h
  · exact q
theorem sub61 (i : Nat) (h : 61 ≤ i) : 61 + (i - 61) = i := by omega
theorem sub6174 (i : Nat) (h : 61 ≤ i) : 74 + (i - 61) = i + 13 := by omega
theorem sub74 (i : Nat) (h : 74 ≤ i) : 74 + (i - 74) = i := by omega
theorem nar_char {v : Int32} (h : (v.toUInt32 % 65536).toInt32 = v) : narrow .char (.int v) = .int v := by
  have := pk_nc v
  rw [h] at this
  exact this
theorem my_ldcw {p : Program} {l : Launch} {e : Env} {R : Room} {s : State} {m : MethodId} {args : Array Value} {below : List Frame} {meth : Method} {c : Code} {T : State} {locs : List Loc} {cells slots : Nat} (X : Stand p l e R s m args below meth c T locs cells slots) (hexec : p.tables.exec = Jvm.exec) {own text : String} {index : Nat} {a : Addr} (hown : s.vm.findClass own = some m.cls)
    (hconst : (Cond.stringRef own index text).before #[] s = true) (hev : (Term.string own index).eval #[] s none [] s = some (.ref a)) {g : JFrame} (hg : g.method = m) (hdg : decode c.code g.pc = .ok (.ldc_w index, 3)) :
    ∀ target, Steps p.tables e below (T.setTop { g with pc := g.pc + 3, stack := .ref a :: g.stack }) target → Steps p.tables e below (T.setTop g) target := by
  obtain ⟨k, cf, i, a', hk, hcf, hcp, -, hr, hev'⟩ := Cond.stringRef_spec hown hconst
  cases hev.symm.trans hev'
  obtain ⟨k', hk', he⟩ := X.warmed.alike.2.2 _ _ hk
  have hr' : k'.resolved[index]? = some (some (.string a)) := by
    rcases X.warmed.entry hk hk' index with h | ⟨h, -⟩
    · rw [h]; exact hr
    · rw [hr] at h; cases h
  intro target hrest
  subst hg
  jvm_step X.here [hexec, hdg, ldc_w.wp_string (e := e) (s := T) (f := g) X.here.top hk' (by rw [he]; exact hcf) hcp hr']
  exact hrest
theorem my_ldcS {p : Program} {l : Launch} {e : Env} {R : Room} {s : State} {m : MethodId} {args : Array Value} {below : List Frame} {meth : Method} {c : Code} {H : Heap} {locs : List Loc} {cells slots : Nat} {Q : State → Prop} {cc : ByteArray} {pc : Nat} {ls : Array Slot} {rest : List Value} (hexec : p.tables.exec = Jvm.exec) (hb : c.code = cc) {own tx : String} {index q : Nat} (hown : s.vm.findClass own = some m.cls) (hZ : vk_R own index tx q s) (hdg : decode cc pc = .ok (.ldc_w index, 3))
    (k : W p l e R s m args below meth c H locs cells slots Q (F0 m (pc + 3) ls (.ref q :: rest))) : W p l e R s m args below meth c H locs cells slots Q (F0 m pc ls rest) := by
  intro T hT X
  obtain ⟨t, a1, b1⟩ := k T hT X
  exact ⟨t, my_ldcw X hexec hown (text := tx) (a := q) hZ.1 hZ.2 (g := F0 m pc ls rest) rfl (by rw [hb]; exact hdg) t a1, b1⟩
section OPS4
variable {l : Launch} {G : Gm} {R : Room} {nL : Nat} {cc : ByteArray} {own : String} {RX : Nat → LSt → List Value → Mem → Option Value → Mem → Prop} {pc : Nat}
theorem ok_Cpy {idx nx : Nat} (hd : decode cc pc = .ok (.invokestatic idx, 3)) (w1 : Cond.methodLink own idx arraycopyName ∈ TW) (w2 : Cond.native arraycopyName ∈ TW) (w3 : Cond.static arraycopyName ∈ TW) (w4 : Cond.initialized "java/lang/System" ∈ TW) (hR : 1 ≤ R.frames ∧ 26 ≤ R.locals) (hn : pc + 3 = nx) : OkU (TXm l G R nL cc own) RX pc (oCpy nx) := by
  intro ls st μ
  subst hn
  rcases st with _ | ⟨v1, _ | ⟨v2, _ | ⟨v3, _ | ⟨v4, _ | ⟨v5, r⟩⟩⟩⟩⟩
  · exact Or.inr (Or.inr (fun _ _ => rfl))
  · cases v1 <;> exact Or.inr (Or.inr (fun _ _ => rfl))
  · cases v1 <;> cases v2 <;> exact Or.inr (Or.inr (fun _ _ => rfl))
  · cases v1 with
    | int _ =>
      cases v2 with
      | int _ => cases v3 <;> exact Or.inr (Or.inr (fun _ _ => rfl))
      | _ => exact Or.inr (Or.inr (fun _ _ => rfl))
    | _ => exact Or.inr (Or.inr (fun _ _ => rfl))
  · cases v1 with
    | int _ =>
      cases v2 with
      | int _ =>
        cases v3 with
        | ref _ => cases v4 <;> exact Or.inr (Or.inr (fun _ _ => rfl))
        | _ => exact Or.inr (Or.inr (fun _ _ => rfl))
      | _ => exact Or.inr (Or.inr (fun _ _ => rfl))
    | _ => exact Or.inr (Or.inr (fun _ _ => rfl))
  · cases v1 with
    | int cn =>
      cases v2 with
      | int dp =>
        cases v3 with
        | ref j =>
          cases v4 with
          | int sp =>
            cases v5 with
            | ref i =>
              cases hb : (Nat.beq (kd i) 6 && (Nat.beq (kd j) 6 && Nat.ble (rsum r) 8)) with
              | false => exact Or.inr (Or.inr (fun n k => by simp only [oCpy, hb, cond_false]))
              | true =>
                have hb2 := hb
                simp only [Bool.and_eq_true] at hb2
                obtain ⟨hk, hi⟩ := kd9 (by decide) hb2.1
                obtain ⟨hk2, hj⟩ := kd9 (by decide) hb2.2.1
                have h8 : rsum r ≤ 8 := Nat.le_of_ble_eq_true hb2.2.2
                by_cases h1 : sp < 0
                · exact Or.inr (Or.inr (fun n k => by simp only [oCpy, hb, cond_true, decide_eq_true h1]))
                · by_cases h2 : dp < 0
                  · exact Or.inr (Or.inr (fun n k => by simp only [oCpy, hb, cond_true, decide_eq_false h1, cond_false, decide_eq_true h2]))
                  · by_cases h3 : cn < 0
                    · exact Or.inr (Or.inr (fun n k => by simp only [oCpy, hb, cond_true, decide_eq_false h1, cond_false, decide_eq_false h2, decide_eq_true h3]))
                    · cases h4 : Nat.blt (lenOf i) (sp.toNatClampNeg + cn.toNatClampNeg) with
                      | true => exact Or.inr (Or.inr (fun n k => by simp only [oCpy, hb, cond_true, decide_eq_false h1, cond_false, decide_eq_false h2, decide_eq_false h3, h4]))
                      | false =>
                        cases h5 : Nat.blt (lenOf j) (dp.toNatClampNeg + cn.toNatClampNeg) with
                        | true => exact Or.inr (Or.inr (fun n k => by simp only [oCpy, hb, cond_true, decide_eq_false h1, cond_false, decide_eq_false h2, decide_eq_false h3, h4, h5]))
                        | false =>
                          refine Or.inl ⟨pc + 3, ls, r, up1 μ j (va_cpy (μ i) (μ j) sp.toNatClampNeg dp.toNatClampNeg cn.toNatClampNeg), fun n k => by simp only [oCpy, hb, cond_true, decide_eq_false h1, cond_false, decide_eq_false h2, decide_eq_false h3, h4, h5], fun p e s m args below meth c cells slots A hC Q H locs lsA hL hI kk => ?_⟩
                          have h4 : sp.toNatClampNeg + cn.toNatClampNeg ≤ lenOf i := blt_ge h4
                          have h5 : dp.toNatClampNeg + cn.toNatClampNeg ≤ lenOf j := blt_ge h5
                          refine va_copyi hC.1.1 hC.1.2.1 (hC.1.2.2.1.trans hL.2.1.symm) hC.1.2.2.2.1 (hC.1.2.2.2.2 _ w1) (hC.1.2.2.2.2 _ w2) (hC.1.2.2.2.2 _ w3) (hC.1.2.2.2.2 _ w4) hC.2.2.1 hI.1 (wld_D hC.2.2.2.1 hC.2.2.2.2.1) hI.2 i j 0 0 (wldi hk hi) (wldi hk2 hj) rfl rfl rfl h1 h2 h3 h4 h5 (fun _ _ => rfl) hR.1 (by rw [rsum_cv]; show rsum r + (7 + 11) ≤ _; omega) hd (fun H1 locs1 hP1 _ hS1 => kk H1 locs1 lsA hL ⟨?_, hS1⟩)
                          rw [← cell_int hk2, wld_set hj] at hP1
                          exact hP1
            | _ => exact Or.inr (Or.inr (fun _ _ => rfl))
          | _ => exact Or.inr (Or.inr (fun _ _ => rfl))
        | _ => exact Or.inr (Or.inr (fun _ _ => rfl))
      | _ => exact Or.inr (Or.inr (fun _ _ => rfl))
    | _ => exact Or.inr (Or.inr (fun _ _ => rfl))
theorem ok_BRet (hd : decode cc pc = .ok (.ireturn, 1)) : OkU (TXm l G R nL cc own) (RXm l G R nL cc own (some .byte)) pc oBRet := by
  intro ls st μ
  rcases st with _ | ⟨v, _ | ⟨w, r⟩⟩
  · exact Or.inr (Or.inr (fun _ _ => rfl))
  · cases v with
    | int x =>
      by_cases h0 : x = 0
      · subst h0
        exact Or.inr (Or.inl ⟨some (.int 0), μ, fun _ _ => rfl, fun p e s m args below meth c cells slots A hC hr hk H locs lsA hL hI => W.zret hC.1.1 hC.1.2.1 hr rfl (fun t ht hW => ⟨⟨rfl, by rw [ht]; exact hI.1⟩, hI.2.F ht⟩) hI.2.2.2 hd hk⟩)
      · exact Or.inr (Or.inr (fun n k => by simp only [oBRet, decide_eq_false h0, cond_false]))
    | _ => exact Or.inr (Or.inr (fun _ _ => rfl))
  · cases v <;> exact Or.inr (Or.inr (fun _ _ => rfl))
theorem ok_CRet (hd : decode cc pc = .ok (.ireturn, 1)) : OkU (TXm l G R nL cc own) (RXm l G R nL cc own (some .char)) pc oCRet := by
  intro ls st μ
  rcases st with _ | ⟨v, _ | ⟨w, r⟩⟩
  · exact Or.inr (Or.inr (fun _ _ => rfl))
  · cases v with
    | int x =>
      by_cases h0 : (x.toUInt32 % 65536).toInt32 = x
      · exact Or.inr (Or.inl ⟨some (.int x), μ, fun _ _ => by simp only [oCRet, decide_eq_true h0, cond_true], fun p e s m args below meth c cells slots A hC hr hk H locs lsA hL hI => W.zret hC.1.1 hC.1.2.1 hr (nar_char h0) (fun t ht hW => ⟨⟨rfl, by rw [ht]; exact hI.1⟩, hI.2.F ht⟩) hI.2.2.2 hd hk⟩)
      · exact Or.inr (Or.inr (fun n k => by simp only [oCRet, decide_eq_false h0, cond_false]))
    | _ => exact Or.inr (Or.inr (fun _ _ => rfl))
  · cases v <;> exact Or.inr (Or.inr (fun _ _ => rfl))
theorem ok_LdS {idx i nx : Nat} {tx : String} (hd : decode cc pc = .ok (.ldc idx, 2)) (hs : (own, idx, tx, i) ∈ strTab) (hn : pc + 2 = nx) : OkU (TXm l G R nL cc own) RX pc (oLdS i nx) := by
  intro ls st μ
  subst hn
  exact Or.inl ⟨_, _, _, _, fun _ _ => rfl, fun p e s m args below meth c cells slots A hC Q H locs lsA hL hI kk => va_ldcS hC.1.1 hC.1.2.1 hC.1.2.2.2.1 (hC.2.2.2.2.2.2.1.2.2.2 _ hs) hd (kk H locs lsA hL hI)⟩
theorem ok_LdSW {idx i nx : Nat} {tx : String} (hd : decode cc pc = .ok (.ldc_w idx, 3)) (hs : (own, idx, tx, i) ∈ strTab) (hn : pc + 3 = nx) : OkU (TXm l G R nL cc own) RX pc (oLdS i nx) := by
  intro ls st μ
  subst hn
  exact Or.inl ⟨_, _, _, _, fun _ _ => rfl, fun p e s m args below meth c cells slots A hC Q H locs lsA hL hI kk => my_ldcS hC.1.1 hC.1.2.1 hC.1.2.2.2.1 (hC.2.2.2.2.2.2.1.2.2.2 _ hs) hd (kk H locs lsA hL hI)⟩
theorem ok_StrV {idx nx : Nat} (hd : decode cc pc = .ok (.getfield idx, 3)) (hw : Cond.fieldLink own idx "java/lang/String" "value" "[B" ∈ TW) (hn : pc + 3 = nx) : OkU (TXm l G R nL cc own) RX pc (oStrV nx) := by
  intro ls st μ
  subst hn
  rcases st with _ | ⟨v, r⟩
  · exact Or.inr (Or.inr (fun _ _ => rfl))
  · cases v with
    | ref i =>
      cases hb : Nat.beq (kd i) 11 with
      | false => exact Or.inr (Or.inr (fun n k => by simp only [oStrV, hb, cond_false]))
      | true =>
        obtain ⟨h1, h2⟩ := kd_str (Nat.eq_of_beq_eq_true hb)
        refine Or.inl ⟨pc + 3, ls, .ref (i + 13) :: r, μ, fun n k => by simp only [oStrV, hb, cond_true], fun p e s m args below meth c0 cells slots A hC Q H locs lsA hL hI kk => ?_⟩
        have h3 := (hC.2.2.2.2.2.2.1.1.1 (i - 61) (by omega)).2.2.1
        dsimp only at h3
        rw [sub61 i h1, sub6174 i h1] at h3
        exact vk_getf hC.1.1 hC.1.2.1 h3 hI.2 hC.1.2.2.2.1 (hC.1.2.2.2.2 _ hw) (fun _ h9 => h9) hd (kk H locs lsA hL hI)
    | _ => exact Or.inr (Or.inr (fun _ _ => rfl))
theorem ok_StrC {idx nx : Nat} (hd : decode cc pc = .ok (.getfield idx, 3)) (hw : Cond.fieldLink own idx "java/lang/String" "coder" "B" ∈ TW) (hn : pc + 3 = nx) : OkU (TXm l G R nL cc own) RX pc (oStrC nx) := by
  intro ls st μ
  subst hn
  rcases st with _ | ⟨v, r⟩
  · exact Or.inr (Or.inr (fun _ _ => rfl))
  · cases v with
    | ref i =>
      cases hb : Nat.beq (kd i) 11 with
      | false => exact Or.inr (Or.inr (fun n k => by simp only [oStrC, hb, cond_false]))
      | true =>
        obtain ⟨h1, h2⟩ := kd_str (Nat.eq_of_beq_eq_true hb)
        refine Or.inl ⟨pc + 3, ls, .int 0 :: r, μ, fun n k => by simp only [oStrC, hb, cond_true], fun p e s m args below meth c0 cells slots A hC Q H locs lsA hL hI kk => ?_⟩
        have h3 := (hC.2.2.2.2.2.2.1.1.1 (i - 61) (by omega)).2.1
        dsimp only at h3
        rw [sub61 i h1] at h3
        exact vk_getf hC.1.1 hC.1.2.1 h3 hI.2 hC.1.2.2.2.1 (hC.1.2.2.2.2 _ hw) (fun _ h9 => h9) hd (kk H locs lsA hL hI)
    | _ => exact Or.inr (Or.inr (fun _ _ => rfl))
theorem ok_BLen {nx : Nat} (hd : decode cc pc = .ok (.arraylength, 1)) (hn : pc + 1 = nx) : OkU (TXm l G R nL cc own) RX pc (oBLen nx) := by
  intro ls st μ
  subst hn
  rcases st with _ | ⟨v, r⟩
  · exact Or.inr (Or.inr (fun _ _ => rfl))
  · cases v with
    | ref i =>
      cases hb : Nat.beq (kd i) 12 with
      | false => exact Or.inr (Or.inr (fun n k => by simp only [oBLen, hb, cond_false]))
      | true =>
        obtain ⟨h1, h2⟩ := kd_byt (Nat.eq_of_beq_eq_true hb)
        refine Or.inl ⟨pc + 1, ls, .int (Int32.ofNat (lenS.getD (i - 74) 0)) :: r, μ, fun n k => by simp only [oBLen, hb, cond_true], fun p e s m args below meth c0 cells slots A hC Q H locs lsA hL hI kk => ?_⟩
        have h3 := (hC.2.2.2.2.2.2.1.1.1 (i - 74) (by omega)).2.2.2
        dsimp only at h3
        rw [sub74 i h1] at h3
        exact va_tlen hC.1.1 hC.1.2.1 h3 hI.2 rfl hd (kk H locs lsA hL hI)
    | _ => exact Or.inr (Or.inr (fun _ _ => rfl))
theorem ok_BAL {nx : Nat} (hd : decode cc pc = .ok (.baload, 1)) (hn : pc + 1 = nx) : OkU (TXm l G R nL cc own) RX pc (oBAL nx) := by
  intro ls st μ
  subst hn
  rcases st with _ | ⟨v, _ | ⟨w, r⟩⟩
  · exact Or.inr (Or.inr (fun _ _ => rfl))
  · cases v <;> exact Or.inr (Or.inr (fun _ _ => rfl))
  · cases v with
    | int j =>
      cases w with
      | ref i =>
        cases hb : Nat.beq (kd i) 12 with
        | false => exact Or.inr (Or.inr (fun n k => by simp only [oBAL, hb, cond_false]))
        | true =>
          cases hB : inB j (lenS.getD (i - 74) 0) with
          | false => exact Or.inr (Or.inr (fun n k => by simp only [oBAL, hb, cond_true, hB, cond_false]))
          | true =>
            obtain ⟨h0, h1⟩ := inB_of hB
            obtain ⟨g1, g2⟩ := kd_byt (Nat.eq_of_beq_eq_true hb)
            refine Or.inl ⟨pc + 1, ls, .int ((bytS.getD (i - 74) []).getD j.toNatClampNeg 0) :: r, μ, fun n k => by simp only [oBAL, hb, cond_true, hB], fun p e s m args below meth c0 cells slots A hC Q H locs lsA hL hI kk => ?_⟩
            have h3 := (hC.2.2.2.2.2.2.1.1.1 (i - 74) (by omega)).2.2.2
            dsimp only at h3
            rw [sub74 i g1] at h3
            exact va_tb hC.1.1 hC.1.2.1 h3 hI.2 (vp_of h0 h1) rfl hd (kk H locs lsA hL hI)
      | _ => exact Or.inr (Or.inr (fun _ _ => rfl))
    | _ => exact Or.inr (Or.inr (fun _ _ => rfl))
theorem ok_GsC {idx nx : Nat} (hd : decode cc pc = .ok (.getstatic idx, 3)) (hw : Cond.fieldLink own idx "java/lang/String" "COMPACT_STRINGS" "Z" ∈ TW) (hn : pc + 3 = nx) : OkU (TXm l G R nL cc own) RX pc (oGsC nx) := by
  intro ls st μ
  subst hn
  exact Or.inl ⟨_, _, _, _, fun _ _ => rfl, fun p e s m args below meth c cells slots A hC Q H locs lsA hL hI kk => va_gets hC.1.1 hC.1.2.1 hC.2.2.2.2.2.2.1.2.1 hI.2 hC.1.2.2.2.1 (hC.1.2.2.2.2 _ hw) (fun _ h9 => h9) hd (kk H locs lsA hL hI)⟩
theorem ok_GsF {idx nx : Nat} (hd : decode cc pc = .ok (.getstatic idx, 3)) (hw : Cond.fieldLink own idx "jdk/internal/util/Preconditions" "SIOOBE_FORMATTER" "Ljava/util/function/BiFunction;" ∈ TW) (hn : pc + 3 = nx) : OkU (TXm l G R nL cc own) RX pc (oGsF nx) := by
  intro ls st μ
  subst hn
  exact Or.inl ⟨_, _, _, _, fun _ _ => rfl, fun p e s m args below meth c cells slots A hC Q H locs lsA hL hI kk => va_gets hC.1.1 hC.1.2.1 hC.2.2.2.2.2.2.1.2.2.1 hI.2 hC.1.2.2.2.1 (hC.1.2.2.2.2 _ hw) (fun _ h9 => h9) hd (kk H locs lsA hL hI)⟩
/-- a call on a text -/
theorem ok_CaT {a idx nx maxL d : Nat} {y : MethodName} {bytes : ByteArray} {ret : Option FieldType} {S : Sem} (hS : SemU l G y (wsOf y bytes maxL ret) d S) (hd : decode cc pc = .ok (.invokevirtual idx, 3))
    (w1 : Cond.methodLink own idx y ∈ TW) (w2 : Cond.instanceMethod y ∈ TW) (w3 : Cond.selects "java/lang/String" y y ∈ TW) (w4 : Cond.initialized y.cls ∈ TW) (w5 : Cond.code y bytes maxL ret ∈ TW)
    (hp : y.cls ≠ "java/lang/invoke/MethodHandle" ∧ y.cls ≠ "java/lang/invoke/VarHandle" ∧ (parseMethodDescriptor y.desc).map (fun d => d.parameters.length) = some (a - 1)) (hR : d + 1 ≤ R.frames ∧ 8 + (maxL + 11) + 40 * d ≤ R.locals) (hn : pc + 3 = nx) : OkU (TXm l G R nL cc own) RX pc (oCaV a 11 S nx) := by
  intro ls st μ
  subst hn
  cases hT : (st.take a).reverse with
  | nil => exact Or.inr (Or.inr (fun n k => by simp only [oCaV, hT]))
  | cons v as =>
    cases v with
    | ref i =>
      cases hb : (Nat.beq (kd i) 11 && (Nat.ble (rsum (st.drop a)) 8 && Nat.beq (as.length + 1) a)) with
      | false => exact Or.inr (Or.inr (fun n k => by simp only [oCaV, hT, bif_and, hb, cond_false]))
      | true =>
        rcases hS (.ref i :: as) μ with ⟨r, μ', h1, h2⟩ | h1
        · refine Or.inl ⟨pc + 3, ls, r.toList ++ st.drop a, μ', fun n k => by simp only [oCaV, hT, bif_and, hb, cond_true, fL_eq, h1]; cases r <;> rfl, fun p e s m args below meth c cells slots A hC Q H locs lsA hL hI kk => ?_⟩
          simp only [Bool.and_eq_true] at hb
          obtain ⟨g1, g2⟩ := kd_str (Nat.eq_of_beq_eq_true hb.1)
          have hlen : as.length + 1 = a := Nat.eq_of_beq_eq_true hb.2.2
          have hAA := AA_in hC.2.2.2.2.1 hC.2.2.2.2.2.1 hI.2
          have hst : st.map (cv G) = (as.map (cv G)).reverse ++ .ref (G.2.1 i) :: (st.drop a).map (cv G) := by
            conv => lhs; rw [take_rev hT]
            simp [cv]
          have hrc := vk_recv (i := i - 61) hC.2.2.2.2.2.2.1.1 (by omega) hI.2
          rw [sub61 i g1] at hrc
          refine my_call (A1 := AA G H.size) (free := AA G H.size) (rest := (st.drop a).map (cv G)) (va_runV (n := a - 1) (C := "java/lang/String") (b := G.2.1 i) (As := as.map (cv G)) hC.1 (h2 H.size) ⟨callB_of (a - 1) hC.1.2.2.2.2 (good_ws w5) rfl rfl rfl (hC.1.2.2.2.2 _ w4) (hC.1.2.2.2.2 _ w1) hp hR, hC.1.2.2.2.2 _ w2, hC.1.2.2.2.2 _ w3⟩ ⟨blindW, hrc, fun U hU hW => ⟨rfl, by rw [hU], Wst_call hI hC.2.2.1 hC.2.2.2.1 hC.2.1 hC.2.2.2.2.2.2.1 hAA hU hW⟩⟩ rfl (by simp; omega) hL.2.1 hst (lv_room (by rw [rsum_cv]; exact Nat.le_of_ble_eq_true hb.2.1)) hd hC.2.2.2.2.2.2.2) hI.2 (fun q _ h => hAA q h) hAA (fun H1 locs1 hP1 hS1 => ?_)
          rw [toList_cv]
          exact kk H1 locs1 lsA hL ⟨hP1, hS1⟩
        · exact Or.inr (Or.inr (fun n k => by simp only [oCaV, hT, bif_and, hb, cond_true, fL_eq, h1]))
    | _ => exact Or.inr (Or.inr (fun n k => by simp only [oCaV, hT]))
end OPS4
