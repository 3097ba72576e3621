/-! what a method stands on, and every step is sound -/
def strTab : List (String × Nat × String × Nat) := [("ToastCourt$Tape", 65, "disputant", 0), ("ToastCourt$Tape", 67, "aunt", 1), ("ToastCourt$Tape", 71, "lawyer", 2), ("ToastCourt$Tape", 73, "parson", 3), ("ToastCourt$Tape", 75, "bishop", 4), ("ToastCourt$Tape", 77, "child", 5), ("ToastCourt$Tape", 79, "twin", 6), ("ToastCourt$Tape", 95, "cause", 10), ("ToastCourt$Tape", 103, "temper", 11), ("ToastCourt$Tape", 107, "silent", 12), ("ToastCourt$Tape", 46, "dispute", 7), ("ToastCourt$Tape", 55, "height", 8), ("ToastCourt$Tape", 60, "spread", 9), ("ToastCourtModel", 27, "disputant", 0), ("ToastCourtModel", 29, "aunt", 1), ("ToastCourtModel", 31, "lawyer", 2), ("ToastCourtModel", 33, "parson", 3), ("ToastCourtModel", 35, "bishop", 4), ("ToastCourtModel", 37, "child", 5), ("ToastCourtModel", 39, "twin", 6), ("ToastCourtModel", 270, "cause", 10), ("ToastCourtModel", 278, "temper", 11), ("ToastCourtModel", 280, "silent", 12), ("ToastCourtModel", 288, "dispute", 7), ("ToastCourtModel", 293, "height", 8), ("ToastCourtModel", 295, "spread", 9)]
def STR (G : Gm) (A : Nat → Prop) (U : State) (H : Heap) : Prop := vk_S 13 lenS bytS (fun i => G.2.1 (61 + i)) (fun i => G.2.1 (74 + i)) A U H ∧ va_Z "java/lang/String" "COMPACT_STRINGS" "Z" (.int 1) A U H ∧ va_Z "jdk/internal/util/Preconditions" "SIOOBE_FORMATTER" "Ljava/util/function/BiFunction;" (va_rf G.2.2.2) A U H ∧ ∀ q ∈ strTab, vk_R q.1 q.2.1 q.2.2.1 (G.2.1 (61 + q.2.2.2)) U
def AA (G : Gm) (sz : Nat) : Nat → Prop := fun q => (∃ i, i < NC ∧ q = G.2.1 i) ∨ sz ≤ q
def HI (s : State) (G : Gm) (A : Nat → Prop) (μ : Mem) (H : Heap) (locs : List Loc) : Prop := va_P G.1 classes (wld G μ) H ∧ va_S A s.heap H locs
def CxD (p : Program) (R : Room) (s : State) (m : MethodId) (args : Array Value) (meth : Method) (c : Code) (cells slots nL : Nat) (cc : ByteArray) (own : String) (G : Gm) (A : Nat → Prop) : Prop :=
  (p.tables.exec = Jvm.exec ∧ c.code = cc ∧ c.maxLocals = nL ∧ s.vm.findClass own = some m.cls ∧ ∀ w ∈ TW, w.before args s = true) ∧ (∀ w ∈ NW, va_Nw w s) ∧ va_K G.1 classes (tysOf G) s ∧ (∀ i j, i < NC → j < NC → G.2.1 i = G.2.1 j → i = j) ∧ (∀ i, i < NC → A (G.2.1 i)) ∧ (∀ q, s.heap.size ≤ q → A q) ∧ STR G A s s.heap ∧ (cells ≤ R.cells ∧ slots ≤ R.slots)
def TXm (l : Launch) (G : Gm) (R : Room) (nL : Nat) (cc : ByteArray) (own : String) : Nat → LSt → List Value → Mem → Nat → LSt → List Value → Mem → Prop := fun pc ls st μ pc' ls' st' μ' =>
  ∀ (p : Program) (e : Env) (s : State) (m : MethodId) (args : Array Value) (below : List Frame) (meth : Method) (c : Code) (cells slots : Nat) (A : Nat → Prop), CxD p R s m args meth c cells slots nL cc own G A →
  ∀ (Q : State → Prop) (H : Heap) (locs : List Loc) (lsA : Array Slot), HL nL G lsA ls → HI s G A μ H locs →
  (∀ (H' : Heap) (locs' : List Loc) (lsA' : Array Slot), HL nL G lsA' ls' → HI s G A μ' H' locs' → W p l e R s m args below meth c H' locs' cells slots Q (F0 m pc' lsA' (st'.map (cv G)))) →
  W p l e R s m args below meth c H locs cells slots Q (F0 m pc lsA (st.map (cv G)))
/-- a method's own end -/
def QM (G : Gm) (A : Nat → Prop) (below : List Frame) (args : Array Value) (s : State) (cells slots : Nat) (r : Option Value) (μ' : Mem) : State → Prop := MQ below (fun _ st oc t => (oc = .returned (r.map (cv G)) ∧ va_P G.1 classes (wld G μ') t.heap) ∧ va_F A st t) args s cells slots A
def RXm (l : Launch) (G : Gm) (R : Room) (nL : Nat) (cc : ByteArray) (own : String) (ret : Option FieldType) : Nat → LSt → List Value → Mem → Option Value → Mem → Prop := fun pc ls st μ r μ' =>
  ∀ (p : Program) (e : Env) (s : State) (m : MethodId) (args : Array Value) (below : List Frame) (meth : Method) (c : Code) (cells slots : Nat) (A : Nat → Prop), CxD p R s m args meth c cells slots nL cc own G A → meth.sig.returnType = ret → meth.locks = false →
  ∀ (H : Heap) (locs : List Loc) (lsA : Array Slot), HL nL G lsA ls → HI s G A μ H locs → W p l e R s m args below meth c H locs cells slots (QM G A below args s cells slots r μ') (F0 m pc lsA (st.map (cv G)))
theorem comp_m {l : Launch} {G : Gm} {R : Room} {nL : Nat} {cc : ByteArray} {own : String} {ret : Option FieldType} : ∀ pc ls st μ pc' ls' st' μ' r μ2, TXm l G R nL cc own pc ls st μ pc' ls' st' μ' → RXm l G R nL cc own ret pc' ls' st' μ' r μ2 → RXm l G R nL cc own ret pc ls st μ r μ2 :=
  fun pc ls st μ pc' ls' st' μ' r μ2 h1 h2 p e s m args below meth c cells slots A hC hr hk H locs lsA hL hI => h1 p e s m args below meth c cells slots A hC _ H locs lsA hL hI (fun H' locs' lsA' hL' hI' => h2 p e s m args below meth c cells slots A hC hr hk H' locs' lsA' hL' hI')
theorem in_c (c : Nat) (h : c < 6) : ∀ w ∈ u_ws (Rc c) (Tc c) (Nf c), w ∈ TW := by
  rcases (by omega : c = 0 ∨ c = 1 ∨ c = 2 ∨ c = 3 ∨ c = 4 ∨ c = 5) with rfl | rfl | rfl | rfl | rfl | rfl
  · exact inX0
  · exact inX1
  · exact inX2
  · exact inX3
  · exact inX4
  · exact inX5
theorem ty_c (c : Nat) (h : c < 6) : ∀ k, k < Nf c → parseFieldDescriptor (Tc c k).2.2.1 = some (tyc c k) := by
  rcases (by omega : c = 0 ∨ c = 1 ∨ c = 2 ∨ c = 3 ∨ c = 4 ∨ c = 5) with rfl | rfl | rfl | rfl | rfl | rfl
  · exact tyX0_ok
  · exact tyX1_ok
  · exact tyX2_ok
  · exact tyX3_ok
  · exact tyX4_ok
  · exact tyX5_ok
theorem nm_c (c : Nat) (h : c < 6) : ∀ a, a < Nf c → ∀ b, b < Nf c → a ≠ b → (Tc c a).2.1 ≠ (Tc c b).2.1 := by
  rcases (by omega : c = 0 ∨ c = 1 ∨ c = 2 ∨ c = 3 ∨ c = 4 ∨ c = 5) with rfl | rfl | rfl | rfl | rfl | rfl
  · exact nmX0
  · exact nmX1
  · exact nmX2
  · exact nmX3
  · exact nmX4
  · exact nmX5
section OPS
variable {l : Launch} {G : Gm} {R : Room} {nL : Nat} {cc : ByteArray} {own : String} {RX : Nat → LSt → List Value → Mem → Option Value → Mem → Prop} {pc : Nat}
theorem ok_ILd {i nx : Nat} (hd : decode cc pc = .ok (.iload i, 2)) (hn : pc + 2 = nx) : OkU (TXm l G R nL cc own) RX pc (oILd i nx) := by
  intro ls st μ
  subst hn
  cases h : lsAt ls i with
  | none => exact Or.inr (Or.inr (fun n k => by simp only [oILd, h]))
  | some v =>
    cases v with
    | int x => exact Or.inl ⟨pc + 2, ls, .int x :: st, μ, fun n k => by simp only [oILd, h], fun p e s m args below meth c cells slots A hC Q H locs lsA hL hI kk => lv_iload hC.1.1 hC.1.2.1 hd (hL.at h) (kk H locs lsA hL hI)⟩
    | _ => exact Or.inr (Or.inr (fun n k => by simp only [oILd, h]))
theorem ok_ILdn {j : Fin 4} {i nx : Nat} (hd : decode cc pc = .ok (.iload_n j, 1)) (hj : (j : Nat) = i) (hn : pc + 1 = nx) : OkU (TXm l G R nL cc own) RX pc (oILd i nx) := by
  intro ls st μ
  subst hn
  cases h : lsAt ls i with
  | none => exact Or.inr (Or.inr (fun n k => by simp only [oILd, h]))
  | some v =>
    cases v with
    | int x => exact Or.inl ⟨pc + 1, ls, .int x :: st, μ, fun n k => by simp only [oILd, h], fun p e s m args below meth c cells slots A hC Q H locs lsA hL hI kk => lv_iload_n hC.1.1 hC.1.2.1 hd hj (hL.at h) (kk H locs lsA hL hI)⟩
    | _ => exact Or.inr (Or.inr (fun n k => by simp only [oILd, h]))
theorem ok_ALd {i nx : Nat} (hd : decode cc pc = .ok (.aload i, 2)) (hn : pc + 2 = nx) : OkU (TXm l G R nL cc own) RX pc (oALd i nx) := by
  intro ls st μ
  subst hn
  cases h : lsAt ls i with
  | none => exact Or.inr (Or.inr (fun n k => by simp only [oALd, h]))
  | some v =>
    cases v with
    | ref x => exact Or.inl ⟨pc + 2, ls, .ref x :: st, μ, fun n k => by simp only [oALd, h], fun p e s m args below meth c cells slots A hC Q H locs lsA hL hI kk => lv_aload hC.1.1 hC.1.2.1 hd (hL.at h) (kk H locs lsA hL hI)⟩
    | _ => exact Or.inr (Or.inr (fun n k => by simp only [oALd, h]))
theorem ok_ALdn {j : Fin 4} {i nx : Nat} (hd : decode cc pc = .ok (.aload_n j, 1)) (hj : (j : Nat) = i) (hn : pc + 1 = nx) : OkU (TXm l G R nL cc own) RX pc (oALd i nx) := by
  intro ls st μ
  subst hn
  cases h : lsAt ls i with
  | none => exact Or.inr (Or.inr (fun n k => by simp only [oALd, h]))
  | some v =>
    cases v with
    | ref x => exact Or.inl ⟨pc + 1, ls, .ref x :: st, μ, fun n k => by simp only [oALd, h], fun p e s m args below meth c cells slots A hC Q H locs lsA hL hI kk => lv_aload_n hC.1.1 hC.1.2.1 hd hj (hL.at h) (kk H locs lsA hL hI)⟩
    | _ => exact Or.inr (Or.inr (fun n k => by simp only [oALd, h]))
theorem ok_LLd {i nx : Nat} (hd : decode cc pc = .ok (.lload i, 2)) (hn : pc + 2 = nx) : OkU (TXm l G R nL cc own) RX pc (oLLd i nx) := by
  intro ls st μ
  subst hn
  cases h : lsAt ls i with
  | none => exact Or.inr (Or.inr (fun n k => by simp only [oLLd, h]))
  | some v =>
    cases v with
    | long x => exact Or.inl ⟨pc + 2, ls, .long x :: st, μ, fun n k => by simp only [oLLd, h], fun p e s m args below meth c cells slots A hC Q H locs lsA hL hI kk => lv_lload hC.1.1 hC.1.2.1 hd (hL.at h) (kk H locs lsA hL hI)⟩
    | _ => exact Or.inr (Or.inr (fun n k => by simp only [oLLd, h]))
theorem blt_lt {a b : Nat} (h : Nat.blt a b = true) : a < b := Nat.le_of_ble_eq_true h
theorem ok_ISt {i nx : Nat} (hd : decode cc pc = .ok (.istore i, 2)) (hn : pc + 2 = nx) : OkU (TXm l G R nL cc own) RX pc (oISt i nx) := by
  intro ls st μ
  subst hn
  rcases st with _ | ⟨v, r⟩
  · exact Or.inr (Or.inr (fun _ _ => rfl))
  · cases v with
    | int x =>
      cases hb : Nat.blt i ls.length with
      | false => exact Or.inr (Or.inr (fun n k => by simp only [oISt, hb, cond_false]))
      | true => exact Or.inl ⟨pc + 2, stL ls i (.int x), r, μ, fun n k => by simp only [oISt, hb, cond_true, fL_eq], fun p e s m args below meth c cells slots A hC Q H locs lsA hL hI kk => lv_istore hC.1.1 hC.1.2.1 hd hL.2 (hL.1 ▸ blt_lt hb) rfl (fun ls' h' => kk H locs ls' (hL.st (v := .int x) h') hI)⟩
    | _ => exact Or.inr (Or.inr (fun _ _ => rfl))
theorem ok_IStn {j : Fin 4} {i nx : Nat} (hd : decode cc pc = .ok (.istore_n j, 1)) (hj : (j : Nat) = i) (hn : pc + 1 = nx) : OkU (TXm l G R nL cc own) RX pc (oISt i nx) := by
  intro ls st μ
  subst hn
  rcases st with _ | ⟨v, r⟩
  · exact Or.inr (Or.inr (fun _ _ => rfl))
  · cases v with
    | int x =>
      cases hb : Nat.blt i ls.length with
      | false => exact Or.inr (Or.inr (fun n k => by simp only [oISt, hb, cond_false]))
      | true => exact Or.inl ⟨pc + 1, stL ls i (.int x), r, μ, fun n k => by simp only [oISt, hb, cond_true, fL_eq], fun p e s m args below meth c cells slots A hC Q H locs lsA hL hI kk => lv_istore_n hC.1.1 hC.1.2.1 hd hj hL.2 (hL.1 ▸ blt_lt hb) rfl (fun ls' h' => kk H locs ls' (hL.st (v := .int x) h') hI)⟩
    | _ => exact Or.inr (Or.inr (fun _ _ => rfl))
theorem ok_ASt {i nx : Nat} (hd : decode cc pc = .ok (.astore i, 2)) (hn : pc + 2 = nx) : OkU (TXm l G R nL cc own) RX pc (oASt i nx) := by
  intro ls st μ
  subst hn
  rcases st with _ | ⟨v, r⟩
  · exact Or.inr (Or.inr (fun _ _ => rfl))
  · cases v with
    | ref x =>
      cases hb : Nat.blt i ls.length with
      | false => exact Or.inr (Or.inr (fun n k => by simp only [oASt, hb, cond_false]))
      | true => exact Or.inl ⟨pc + 2, stL ls i (.ref x), r, μ, fun n k => by simp only [oASt, hb, cond_true, fL_eq], fun p e s m args below meth c cells slots A hC Q H locs lsA hL hI kk => lv_astore hC.1.1 hC.1.2.1 hd hL.2 (hL.1 ▸ blt_lt hb) rfl (fun ls' h' => kk H locs ls' (hL.st (v := .ref x) h') hI)⟩
    | _ => exact Or.inr (Or.inr (fun _ _ => rfl))
theorem ok_AStn {j : Fin 4} {i nx : Nat} (hd : decode cc pc = .ok (.astore_n j, 1)) (hj : (j : Nat) = i) (hn : pc + 1 = nx) : OkU (TXm l G R nL cc own) RX pc (oASt i nx) := by
  intro ls st μ
  subst hn
  rcases st with _ | ⟨v, r⟩
  · exact Or.inr (Or.inr (fun _ _ => rfl))
  · cases v with
    | ref x =>
      cases hb : Nat.blt i ls.length with
      | false => exact Or.inr (Or.inr (fun n k => by simp only [oASt, hb, cond_false]))
      | true => exact Or.inl ⟨pc + 1, stL ls i (.ref x), r, μ, fun n k => by simp only [oASt, hb, cond_true, fL_eq], fun p e s m args below meth c cells slots A hC Q H locs lsA hL hI kk => lv_astore_n hC.1.1 hC.1.2.1 hd hj hL.2 (hL.1 ▸ blt_lt hb) rfl (fun ls' h' => kk H locs ls' (hL.st (v := .ref x) h') hI)⟩
    | _ => exact Or.inr (Or.inr (fun _ _ => rfl))
theorem ok_LSt {i nx : Nat} (hd : decode cc pc = .ok (.lstore i, 2)) (hn : pc + 2 = nx) : OkU (TXm l G R nL cc own) RX pc (oLSt i nx) := by
  intro ls st μ
  subst hn
  rcases st with _ | ⟨v, r⟩
  · exact Or.inr (Or.inr (fun _ _ => rfl))
  · cases v with
    | long x =>
      cases hb : Nat.blt (i + 1) ls.length with
      | false => exact Or.inr (Or.inr (fun n k => by simp only [oLSt, hb, cond_false]))
      | true => exact Or.inl ⟨pc + 2, stL2 ls i (.long x), r, μ, fun n k => by simp only [oLSt, hb, cond_true, fL_eq], fun p e s m args below meth c cells slots A hC Q H locs lsA hL hI kk => lv_lstore hC.1.1 hC.1.2.1 hd hL.2 (hL.1 ▸ blt_lt hb) rfl (fun ls' h' => kk H locs ls' (hL.st2 (v := .long x) h') hI)⟩
    | _ => exact Or.inr (Or.inr (fun _ _ => rfl))
theorem ok_Inc {i nx : Nat} {n0 : Int} {d : Int32} (hd : decode cc pc = .ok (.iinc i n0, 3)) (hdd : Int32.ofInt n0 = d) (hn : pc + 3 = nx) : OkU (TXm l G R nL cc own) RX pc (oInc i d nx) := by
  intro ls st μ
  subst hn
  cases h : lsAt ls i with
  | none => exact Or.inr (Or.inr (fun n k => by simp only [oInc, h]))
  | some v =>
    cases v with
    | int x =>
      refine Or.inl ⟨pc + 3, stL ls i (.int (x + d)), st, μ, fun n k => by simp only [oInc, h, fL_eq], fun p e s m args below meth c cells slots A hC Q H locs lsA hL hI kk => ?_⟩
      obtain ⟨j, hj⟩ := List.getElem?_of_mem (toLv_mem (G := G) h)
      exact lv_iinc hC.1.1 hC.1.2.1 hd hL.2 hj (by rw [hdd]) (hL.1 ▸ lsAt_lt h) rfl (fun ls' h' => kk H locs ls' (hL.st (v := .int (x + d)) h') hI)
    | _ => exact Or.inr (Or.inr (fun n k => by simp only [oInc, h]))
theorem ok_ICst {n0 : Int} {v : Int32} {nx : Nat} (hd : decode cc pc = .ok (.iconst n0, 1)) (hv : Int32.ofInt n0 = v) (hn : pc + 1 = nx) : OkU (TXm l G R nL cc own) RX pc (oCst v nx) := by
  intro ls st μ
  subst hn
  exact Or.inl ⟨_, _, _, _, fun _ _ => rfl, fun p e s m args below meth c cells slots A hC Q H locs lsA hL hI kk => lv_iconst hC.1.1 hC.1.2.1 hd hv (kk H locs lsA hL hI)⟩
theorem ok_BCst {n0 : Int} {v : Int32} {nx : Nat} (hd : decode cc pc = .ok (.bipush n0, 2)) (hv : (Int8.ofInt n0).toInt32 = v) (hn : pc + 2 = nx) : OkU (TXm l G R nL cc own) RX pc (oCst v nx) := by
  intro ls st μ
  subst hn
  exact Or.inl ⟨_, _, _, _, fun _ _ => rfl, fun p e s m args below meth c cells slots A hC Q H locs lsA hL hI kk => lv_bipush hC.1.1 hC.1.2.1 hd hv (kk H locs lsA hL hI)⟩
theorem ok_SCst {n0 : Int} {v : Int32} {nx : Nat} (hd : decode cc pc = .ok (.sipush n0, 3)) (hv : (Int16.ofInt n0).toInt32 = v) (hn : pc + 3 = nx) : OkU (TXm l G R nL cc own) RX pc (oCst v nx) := by
  intro ls st μ
  subst hn
  exact Or.inl ⟨_, _, _, _, fun _ _ => rfl, fun p e s m args below meth c cells slots A hC Q H locs lsA hL hI kk => lv_sipush hC.1.1 hC.1.2.1 hd hv (kk H locs lsA hL hI)⟩
theorem ok_Ldc {idx : Nat} {v : Int32} {nx : Nat} (hd : decode cc pc = .ok (.ldc idx, 2)) (hw : Cond.constant own idx v ∈ TW) (hn : pc + 2 = nx) : OkU (TXm l G R nL cc own) RX pc (oCst v nx) := by
  intro ls st μ
  subst hn
  exact Or.inl ⟨_, _, _, _, fun _ _ => rfl, fun p e s m args below meth c cells slots A hC Q H locs lsA hL hI kk => lv_ldc hC.1.1 hC.1.2.1 hC.1.2.2.2.1 (hC.1.2.2.2.2 _ hw) hd (kk H locs lsA hL hI)⟩
theorem ok_LdcW {idx : Nat} {v : Int32} {nx : Nat} (hd : decode cc pc = .ok (.ldc_w idx, 3)) (hw : Cond.constant own idx v ∈ TW) (hn : pc + 3 = nx) : OkU (TXm l G R nL cc own) RX pc (oCst v nx) := by
  intro ls st μ
  subst hn
  exact Or.inl ⟨_, _, _, _, fun _ _ => rfl, fun p e s m args below meth c cells slots A hC Q H locs lsA hL hI kk => lv_ldcw hC.1.1 hC.1.2.1 hC.1.2.2.2.1 (hC.1.2.2.2.2 _ hw) hd (kk H locs lsA hL hI)⟩
theorem ok_LCst {j : Fin 2} {v : Int64} {nx : Nat} (hd : decode cc pc = .ok (.lconst j, 1)) (hv : Int64.ofNat (j : Nat) = v) (hn : pc + 1 = nx) : OkU (TXm l G R nL cc own) RX pc (oLCst v nx) := by
  intro ls st μ
  subst hn
  exact Or.inl ⟨_, _, _, _, fun _ _ => rfl, fun p e s m args below meth c cells slots A hC Q H locs lsA hL hI kk => lv_lconst hC.1.1 hC.1.2.1 hd hv (kk H locs lsA hL hI)⟩
theorem ok_iadd {nx : Nat} (hd : decode cc pc = .ok (.iadd, 1)) (hn : pc + 1 = nx) : OkU (TXm l G R nL cc own) RX pc (oBin (fun x y => x + y) nx) := by
  intro ls st μ
  subst hn
  rcases st with _ | ⟨v, _ | ⟨w, r⟩⟩
  · exact Or.inr (Or.inr (fun _ _ => rfl))
  · cases v <;> exact Or.inr (Or.inr (fun _ _ => rfl))
  · cases v with
    | int y =>
      cases w with
      | int x =>
        exact Or.inl ⟨_, _, _, _, fun _ _ => rfl, fun p e s m args below meth c cells slots A hC Q H locs lsA hL hI kk => lv_iadd hC.1.1 hC.1.2.1 hd (kk H locs lsA hL hI)⟩
      | _ => exact Or.inr (Or.inr (fun _ _ => rfl))
    | _ => exact Or.inr (Or.inr (fun _ _ => rfl))
theorem ok_isub {nx : Nat} (hd : decode cc pc = .ok (.isub, 1)) (hn : pc + 1 = nx) : OkU (TXm l G R nL cc own) RX pc (oBin (fun x y => x - y) nx) := by
  intro ls st μ
  subst hn
  rcases st with _ | ⟨v, _ | ⟨w, r⟩⟩
  · exact Or.inr (Or.inr (fun _ _ => rfl))
  · cases v <;> exact Or.inr (Or.inr (fun _ _ => rfl))
  · cases v with
    | int y =>
      cases w with
      | int x =>
        exact Or.inl ⟨_, _, _, _, fun _ _ => rfl, fun p e s m args below meth c cells slots A hC Q H locs lsA hL hI kk => lv_isub hC.1.1 hC.1.2.1 hd (kk H locs lsA hL hI)⟩
      | _ => exact Or.inr (Or.inr (fun _ _ => rfl))
    | _ => exact Or.inr (Or.inr (fun _ _ => rfl))
theorem ok_imul {nx : Nat} (hd : decode cc pc = .ok (.imul, 1)) (hn : pc + 1 = nx) : OkU (TXm l G R nL cc own) RX pc (oBin (fun x y => x * y) nx) := by
  intro ls st μ
  subst hn
  rcases st with _ | ⟨v, _ | ⟨w, r⟩⟩
  · exact Or.inr (Or.inr (fun _ _ => rfl))
  · cases v <;> exact Or.inr (Or.inr (fun _ _ => rfl))
  · cases v with
    | int y =>
      cases w with
      | int x =>
        exact Or.inl ⟨_, _, _, _, fun _ _ => rfl, fun p e s m args below meth c cells slots A hC Q H locs lsA hL hI kk => lv_imul hC.1.1 hC.1.2.1 hd (kk H locs lsA hL hI)⟩
      | _ => exact Or.inr (Or.inr (fun _ _ => rfl))
    | _ => exact Or.inr (Or.inr (fun _ _ => rfl))
theorem ok_iand {nx : Nat} (hd : decode cc pc = .ok (.iand, 1)) (hn : pc + 1 = nx) : OkU (TXm l G R nL cc own) RX pc (oBin (fun x y => x &&& y) nx) := by
  intro ls st μ
  subst hn
  rcases st with _ | ⟨v, _ | ⟨w, r⟩⟩
  · exact Or.inr (Or.inr (fun _ _ => rfl))
  · cases v <;> exact Or.inr (Or.inr (fun _ _ => rfl))
  · cases v with
    | int y =>
      cases w with
      | int x =>
        exact Or.inl ⟨_, _, _, _, fun _ _ => rfl, fun p e s m args below meth c cells slots A hC Q H locs lsA hL hI kk => lv_iand hC.1.1 hC.1.2.1 hd (kk H locs lsA hL hI)⟩
      | _ => exact Or.inr (Or.inr (fun _ _ => rfl))
    | _ => exact Or.inr (Or.inr (fun _ _ => rfl))
theorem ok_ior {nx : Nat} (hd : decode cc pc = .ok (.ior, 1)) (hn : pc + 1 = nx) : OkU (TXm l G R nL cc own) RX pc (oBin (fun x y => x ||| y) nx) := by
  intro ls st μ
  subst hn
  rcases st with _ | ⟨v, _ | ⟨w, r⟩⟩
  · exact Or.inr (Or.inr (fun _ _ => rfl))
  · cases v <;> exact Or.inr (Or.inr (fun _ _ => rfl))
  · cases v with
    | int y =>
      cases w with
      | int x =>
        exact Or.inl ⟨_, _, _, _, fun _ _ => rfl, fun p e s m args below meth c cells slots A hC Q H locs lsA hL hI kk => lv_ior hC.1.1 hC.1.2.1 hd (kk H locs lsA hL hI)⟩
      | _ => exact Or.inr (Or.inr (fun _ _ => rfl))
    | _ => exact Or.inr (Or.inr (fun _ _ => rfl))
theorem ok_ishl {nx : Nat} (hd : decode cc pc = .ok (.ishl, 1)) (hn : pc + 1 = nx) : OkU (TXm l G R nL cc own) RX pc (oBin (fun x y => x <<< (y &&& 31)) nx) := by
  intro ls st μ
  subst hn
  rcases st with _ | ⟨v, _ | ⟨w, r⟩⟩
  · exact Or.inr (Or.inr (fun _ _ => rfl))
  · cases v <;> exact Or.inr (Or.inr (fun _ _ => rfl))
  · cases v with
    | int y =>
      cases w with
      | int x =>
        exact Or.inl ⟨_, _, _, _, fun _ _ => rfl, fun p e s m args below meth c cells slots A hC Q H locs lsA hL hI kk => lv_ishl hC.1.1 hC.1.2.1 hd (kk H locs lsA hL hI)⟩
      | _ => exact Or.inr (Or.inr (fun _ _ => rfl))
    | _ => exact Or.inr (Or.inr (fun _ _ => rfl))
theorem ok_ishr {nx : Nat} (hd : decode cc pc = .ok (.ishr, 1)) (hn : pc + 1 = nx) : OkU (TXm l G R nL cc own) RX pc (oBin (fun x y => x >>> (y &&& 31)) nx) := by
  intro ls st μ
  subst hn
  rcases st with _ | ⟨v, _ | ⟨w, r⟩⟩
  · exact Or.inr (Or.inr (fun _ _ => rfl))
  · cases v <;> exact Or.inr (Or.inr (fun _ _ => rfl))
  · cases v with
    | int y =>
      cases w with
      | int x =>
        exact Or.inl ⟨_, _, _, _, fun _ _ => rfl, fun p e s m args below meth c cells slots A hC Q H locs lsA hL hI kk => lv_ishr hC.1.1 hC.1.2.1 hd (kk H locs lsA hL hI)⟩
      | _ => exact Or.inr (Or.inr (fun _ _ => rfl))
    | _ => exact Or.inr (Or.inr (fun _ _ => rfl))
theorem ok_iushr {nx : Nat} (hd : decode cc pc = .ok (.iushr, 1)) (hn : pc + 1 = nx) : OkU (TXm l G R nL cc own) RX pc (oBin (fun x y => (x.toUInt32 >>> (y.toUInt32 &&& Int32.toUInt32 31)).toInt32) nx) := by
  intro ls st μ
  subst hn
  rcases st with _ | ⟨v, _ | ⟨w, r⟩⟩
  · exact Or.inr (Or.inr (fun _ _ => rfl))
  · cases v <;> exact Or.inr (Or.inr (fun _ _ => rfl))
  · cases v with
    | int y =>
      cases w with
      | int x =>
        exact Or.inl ⟨_, _, _, _, fun _ _ => rfl, fun p e s m args below meth c cells slots A hC Q H locs lsA hL hI kk => lv_iushr hC.1.1 hC.1.2.1 hd rfl (kk H locs lsA hL hI)⟩
      | _ => exact Or.inr (Or.inr (fun _ _ => rfl))
    | _ => exact Or.inr (Or.inr (fun _ _ => rfl))
theorem ok_idiv {nx : Nat} (hd : decode cc pc = .ok (.idiv, 1)) (hn : pc + 1 = nx) : OkU (TXm l G R nL cc own) RX pc (oDiv (fun x y => x / y) nx) := by
  intro ls st μ
  subst hn
  rcases st with _ | ⟨v, _ | ⟨w, r⟩⟩
  · exact Or.inr (Or.inr (fun _ _ => rfl))
  · cases v <;> exact Or.inr (Or.inr (fun _ _ => rfl))
  · cases v with
    | int y =>
      cases w with
      | int x =>
        by_cases h0 : y = 0
        · exact Or.inr (Or.inr (fun n k => by simp only [oDiv, h0, decide_true, cond_true]))
        · exact Or.inl ⟨pc + 1, ls, .int (x / y) :: r, μ, fun n k => by simp only [oDiv, decide_eq_false h0, cond_false], fun p e s m args below meth c cells slots A hC Q H locs lsA hL hI kk => lv_idiv hC.1.1 hC.1.2.1 hd h0 (kk H locs lsA hL hI)⟩
      | _ => exact Or.inr (Or.inr (fun _ _ => rfl))
    | _ => exact Or.inr (Or.inr (fun _ _ => rfl))
theorem ok_irem {nx : Nat} (hd : decode cc pc = .ok (.irem, 1)) (hn : pc + 1 = nx) : OkU (TXm l G R nL cc own) RX pc (oDiv (fun x y => x % y) nx) := by
  intro ls st μ
  subst hn
  rcases st with _ | ⟨v, _ | ⟨w, r⟩⟩
  · exact Or.inr (Or.inr (fun _ _ => rfl))
  · cases v <;> exact Or.inr (Or.inr (fun _ _ => rfl))
  · cases v with
    | int y =>
      cases w with
      | int x =>
        by_cases h0 : y = 0
        · exact Or.inr (Or.inr (fun n k => by simp only [oDiv, h0, decide_true, cond_true]))
        · exact Or.inl ⟨pc + 1, ls, .int (x % y) :: r, μ, fun n k => by simp only [oDiv, decide_eq_false h0, cond_false], fun p e s m args below meth c cells slots A hC Q H locs lsA hL hI kk => lv_irem hC.1.1 hC.1.2.1 hd h0 (by rw [irem_eq_mod]; exact kk H locs lsA hL hI)⟩
      | _ => exact Or.inr (Or.inr (fun _ _ => rfl))
    | _ => exact Or.inr (Or.inr (fun _ _ => rfl))
theorem ok_i2b {nx : Nat} (hd : decode cc pc = .ok (.i2b, 1)) (hn : pc + 1 = nx) : OkU (TXm l G R nL cc own) RX pc (oUn (fun x => x.toInt8.toInt32) nx) := by
  intro ls st μ
  subst hn
  rcases st with _ | ⟨v, r⟩
  · exact Or.inr (Or.inr (fun _ _ => rfl))
  · cases v with
    | int x => exact Or.inl ⟨_, _, _, _, fun _ _ => rfl, fun p e s m args below meth c cells slots A hC Q H locs lsA hL hI kk => lv_i2b hC.1.1 hC.1.2.1 hd rfl (kk H locs lsA hL hI)⟩
    | _ => exact Or.inr (Or.inr (fun _ _ => rfl))
theorem ok_i2s {nx : Nat} (hd : decode cc pc = .ok (.i2s, 1)) (hn : pc + 1 = nx) : OkU (TXm l G R nL cc own) RX pc (oUn (fun x => x.toInt16.toInt32) nx) := by
  intro ls st μ
  subst hn
  rcases st with _ | ⟨v, r⟩
  · exact Or.inr (Or.inr (fun _ _ => rfl))
  · cases v with
    | int x => exact Or.inl ⟨_, _, _, _, fun _ _ => rfl, fun p e s m args below meth c cells slots A hC Q H locs lsA hL hI kk => lv_i2s hC.1.1 hC.1.2.1 hd rfl (kk H locs lsA hL hI)⟩
    | _ => exact Or.inr (Or.inr (fun _ _ => rfl))
theorem ok_i2c {nx : Nat} (hd : decode cc pc = .ok (.i2c, 1)) (hn : pc + 1 = nx) : OkU (TXm l G R nL cc own) RX pc (oUn (fun x => (x.toUInt32 % 65536).toInt32) nx) := by
  intro ls st μ
  subst hn
  rcases st with _ | ⟨v, r⟩
  · exact Or.inr (Or.inr (fun _ _ => rfl))
  · cases v with
    | int x => exact Or.inl ⟨_, _, _, _, fun _ _ => rfl, fun p e s m args below meth c cells slots A hC Q H locs lsA hL hI kk => lv_i2c hC.1.1 hC.1.2.1 hd rfl (kk H locs lsA hL hI)⟩
    | _ => exact Or.inr (Or.inr (fun _ _ => rfl))
theorem ok_ladd {nx : Nat} (hd : decode cc pc = .ok (.ladd, 1)) (hn : pc + 1 = nx) : OkU (TXm l G R nL cc own) RX pc (oLBin (fun x y => x + y) nx) := by
  intro ls st μ
  subst hn
  rcases st with _ | ⟨v, _ | ⟨w, r⟩⟩
  · exact Or.inr (Or.inr (fun _ _ => rfl))
  · cases v <;> exact Or.inr (Or.inr (fun _ _ => rfl))
  · cases v with
    | long y =>
      cases w with
      | long x =>
        exact Or.inl ⟨_, _, _, _, fun _ _ => rfl, fun p e s m args below meth c cells slots A hC Q H locs lsA hL hI kk => lv_ladd hC.1.1 hC.1.2.1 hd (kk H locs lsA hL hI)⟩
      | _ => exact Or.inr (Or.inr (fun _ _ => rfl))
    | _ => exact Or.inr (Or.inr (fun _ _ => rfl))
theorem ok_lmul {nx : Nat} (hd : decode cc pc = .ok (.lmul, 1)) (hn : pc + 1 = nx) : OkU (TXm l G R nL cc own) RX pc (oLBin (fun x y => x * y) nx) := by
  intro ls st μ
  subst hn
  rcases st with _ | ⟨v, _ | ⟨w, r⟩⟩
  · exact Or.inr (Or.inr (fun _ _ => rfl))
  · cases v <;> exact Or.inr (Or.inr (fun _ _ => rfl))
  · cases v with
    | long y =>
      cases w with
      | long x =>
        exact Or.inl ⟨_, _, _, _, fun _ _ => rfl, fun p e s m args below meth c cells slots A hC Q H locs lsA hL hI kk => lv_lmul hC.1.1 hC.1.2.1 hd (kk H locs lsA hL hI)⟩
      | _ => exact Or.inr (Or.inr (fun _ _ => rfl))
    | _ => exact Or.inr (Or.inr (fun _ _ => rfl))
theorem ok_I2L {nx : Nat} (hd : decode cc pc = .ok (.i2l, 1)) (hn : pc + 1 = nx) : OkU (TXm l G R nL cc own) RX pc (oI2L nx) := by
  intro ls st μ
  subst hn
  rcases st with _ | ⟨v, r⟩
  · exact Or.inr (Or.inr (fun _ _ => rfl))
  · cases v with
    | int x => exact Or.inl ⟨_, _, _, _, fun _ _ => rfl, fun p e s m args below meth c cells slots A hC Q H locs lsA hL hI kk => lv_i2l hC.1.1 hC.1.2.1 hd rfl (kk H locs lsA hL hI)⟩
    | _ => exact Or.inr (Or.inr (fun _ _ => rfl))
theorem ok_LCmp {nx : Nat} (hd : decode cc pc = .ok (.lcmp, 1)) (hn : pc + 1 = nx) : OkU (TXm l G R nL cc own) RX pc (oLCmp nx) := by
  intro ls st μ
  subst hn
  rcases st with _ | ⟨v, _ | ⟨w, r⟩⟩
  · exact Or.inr (Or.inr (fun _ _ => rfl))
  · cases v <;> exact Or.inr (Or.inr (fun _ _ => rfl))
  · cases v with
    | long y =>
      cases w with
      | long x => exact Or.inl ⟨_, _, _, _, fun _ _ => rfl, fun p e s m args below meth c cells slots A hC Q H locs lsA hL hI kk => W.lcmp hC.1.1 hC.1.2.1 hd (kk H locs lsA hL hI)⟩
      | _ => exact Or.inr (Or.inr (fun _ _ => rfl))
    | _ => exact Or.inr (Or.inr (fun _ _ => rfl))
theorem ok_Go {t : Nat} {off : Int} (hd : decode cc pc = .ok (.goto off, 3)) (ht : (pc : Int) + off = (t : Int)) : OkU (TXm l G R nL cc own) RX pc (oGo t) := by
  intro ls st μ
  exact Or.inl ⟨_, _, _, _, fun _ _ => rfl, fun p e s m args below meth c cells slots A hC Q H locs lsA hL hI kk => lv_goto hC.1.1 hC.1.2.1 hd ht (kk H locs lsA hL hI)⟩
theorem ok_IfEq {t nx : Nat} {off : Int} (hd : decode cc pc = .ok (.ifCond .eq off, 3)) (ht : (pc : Int) + off = (t : Int)) (hn : pc + 3 = nx) : OkU (TXm l G R nL cc own) RX pc (oIfEq t nx) := by
  intro ls st μ
  subst hn
  rcases st with _ | ⟨v, r⟩
  · exact Or.inr (Or.inr (fun _ _ => rfl))
  · cases v with
    | int x =>
      by_cases hc : x = 0
      · exact Or.inl ⟨t, ls, r, μ, fun n k => if_pos hc, fun p e s m args below meth c cells slots A hC Q H locs lsA hL hI kk => lv_if_eq hC.1.1 hC.1.2.1 hd ht (fun _ => kk H locs lsA hL hI) (fun q => absurd hc q)⟩
      · exact Or.inl ⟨pc + 3, ls, r, μ, fun n k => if_neg hc, fun p e s m args below meth c cells slots A hC Q H locs lsA hL hI kk => lv_if_eq hC.1.1 hC.1.2.1 hd ht (fun q => absurd q hc) (fun _ => kk H locs lsA hL hI)⟩
    | _ => exact Or.inr (Or.inr (fun _ _ => rfl))
theorem ok_IfNe {t nx : Nat} {off : Int} (hd : decode cc pc = .ok (.ifCond .ne off, 3)) (ht : (pc : Int) + off = (t : Int)) (hn : pc + 3 = nx) : OkU (TXm l G R nL cc own) RX pc (oIfEq nx t) := by
  intro ls st μ
  subst hn
  rcases st with _ | ⟨v, r⟩
  · exact Or.inr (Or.inr (fun _ _ => rfl))
  · cases v with
    | int x =>
      by_cases hc : x = 0
      · exact Or.inl ⟨pc + 3, ls, r, μ, fun n k => if_pos hc, fun p e s m args below meth c cells slots A hC Q H locs lsA hL hI kk => lv_if_ne hC.1.1 hC.1.2.1 hd ht (fun q => absurd hc q) (fun _ => kk H locs lsA hL hI)⟩
      · exact Or.inl ⟨t, ls, r, μ, fun n k => if_neg hc, fun p e s m args below meth c cells slots A hC Q H locs lsA hL hI kk => lv_if_ne hC.1.1 hC.1.2.1 hd ht (fun _ => kk H locs lsA hL hI) (fun q => absurd q hc)⟩
    | _ => exact Or.inr (Or.inr (fun _ _ => rfl))
theorem ok_IfLt {t nx : Nat} {off : Int} (hd : decode cc pc = .ok (.ifCond .lt off, 3)) (ht : (pc : Int) + off = (t : Int)) (hn : pc + 3 = nx) : OkU (TXm l G R nL cc own) RX pc (oIfLt t nx) := by
  intro ls st μ
  subst hn
  rcases st with _ | ⟨v, r⟩
  · exact Or.inr (Or.inr (fun _ _ => rfl))
  · cases v with
    | int x =>
      by_cases hc : x < 0
      · exact Or.inl ⟨t, ls, r, μ, fun n k => if_pos hc, fun p e s m args below meth c cells slots A hC Q H locs lsA hL hI kk => lv_if_lt hC.1.1 hC.1.2.1 hd ht (fun _ => kk H locs lsA hL hI) (fun q => absurd hc q)⟩
      · exact Or.inl ⟨pc + 3, ls, r, μ, fun n k => if_neg hc, fun p e s m args below meth c cells slots A hC Q H locs lsA hL hI kk => lv_if_lt hC.1.1 hC.1.2.1 hd ht (fun q => absurd q hc) (fun _ => kk H locs lsA hL hI)⟩
    | _ => exact Or.inr (Or.inr (fun _ _ => rfl))
theorem ok_IfGe {t nx : Nat} {off : Int} (hd : decode cc pc = .ok (.ifCond .ge off, 3)) (ht : (pc : Int) + off = (t : Int)) (hn : pc + 3 = nx) : OkU (TXm l G R nL cc own) RX pc (oIfLt nx t) := by
  intro ls st μ
  subst hn
  rcases st with _ | ⟨v, r⟩
  · exact Or.inr (Or.inr (fun _ _ => rfl))
  · cases v with
    | int x =>
      by_cases hc : x < 0
      · exact Or.inl ⟨pc + 3, ls, r, μ, fun n k => if_pos hc, fun p e s m args below meth c cells slots A hC Q H locs lsA hL hI kk => lv_if_ge hC.1.1 hC.1.2.1 hd ht (fun q => absurd hc (Int32.not_lt.mpr q)) (fun _ => kk H locs lsA hL hI)⟩
      · exact Or.inl ⟨t, ls, r, μ, fun n k => if_neg hc, fun p e s m args below meth c cells slots A hC Q H locs lsA hL hI kk => lv_if_ge hC.1.1 hC.1.2.1 hd ht (fun _ => kk H locs lsA hL hI) (fun q => absurd (Int32.not_lt.mp hc) q)⟩
    | _ => exact Or.inr (Or.inr (fun _ _ => rfl))
theorem ok_IfGt {t nx : Nat} {off : Int} (hd : decode cc pc = .ok (.ifCond .gt off, 3)) (ht : (pc : Int) + off = (t : Int)) (hn : pc + 3 = nx) : OkU (TXm l G R nL cc own) RX pc (oIfGt t nx) := by
  intro ls st μ
  subst hn
  rcases st with _ | ⟨v, r⟩
  · exact Or.inr (Or.inr (fun _ _ => rfl))
  · cases v with
    | int x =>
      by_cases hc : 0 < x
      · exact Or.inl ⟨t, ls, r, μ, fun n k => if_pos hc, fun p e s m args below meth c cells slots A hC Q H locs lsA hL hI kk => lv_if_gt hC.1.1 hC.1.2.1 hd ht (fun _ => kk H locs lsA hL hI) (fun q => absurd hc q)⟩
      · exact Or.inl ⟨pc + 3, ls, r, μ, fun n k => if_neg hc, fun p e s m args below meth c cells slots A hC Q H locs lsA hL hI kk => lv_if_gt hC.1.1 hC.1.2.1 hd ht (fun q => absurd q hc) (fun _ => kk H locs lsA hL hI)⟩
    | _ => exact Or.inr (Or.inr (fun _ _ => rfl))
theorem ok_IfLe {t nx : Nat} {off : Int} (hd : decode cc pc = .ok (.ifCond .le off, 3)) (ht : (pc : Int) + off = (t : Int)) (hn : pc + 3 = nx) : OkU (TXm l G R nL cc own) RX pc (oIfGt nx t) := by
  intro ls st μ
  subst hn
  rcases st with _ | ⟨v, r⟩
  · exact Or.inr (Or.inr (fun _ _ => rfl))
  · cases v with
    | int x =>
      by_cases hc : 0 < x
      · exact Or.inl ⟨pc + 3, ls, r, μ, fun n k => if_pos hc, fun p e s m args below meth c cells slots A hC Q H locs lsA hL hI kk => lv_if_le hC.1.1 hC.1.2.1 hd ht (fun q => absurd hc (Int32.not_lt.mpr q)) (fun _ => kk H locs lsA hL hI)⟩
      · exact Or.inl ⟨t, ls, r, μ, fun n k => if_neg hc, fun p e s m args below meth c cells slots A hC Q H locs lsA hL hI kk => lv_if_le hC.1.1 hC.1.2.1 hd ht (fun _ => kk H locs lsA hL hI) (fun q => absurd (Int32.not_lt.mp hc) q)⟩
    | _ => exact Or.inr (Or.inr (fun _ _ => rfl))
theorem ok_CpEq {t nx : Nat} {off : Int} (hd : decode cc pc = .ok (.if_icmp .eq off, 3)) (ht : (pc : Int) + off = (t : Int)) (hn : pc + 3 = nx) : OkU (TXm l G R nL cc own) RX pc (oCpEq t nx) := by
  intro ls st μ
  subst hn
  rcases st with _ | ⟨v, _ | ⟨w, r⟩⟩
  · exact Or.inr (Or.inr (fun _ _ => rfl))
  · cases v <;> exact Or.inr (Or.inr (fun _ _ => rfl))
  · cases v with
    | int y =>
      cases w with
      | int x =>
        by_cases hc : x = y
        · exact Or.inl ⟨t, ls, r, μ, fun n k => if_pos hc, fun p e s m args below meth c cells slots A hC Q H locs lsA hL hI kk => lv_icmp_eq hC.1.1 hC.1.2.1 hd ht (fun _ => kk H locs lsA hL hI) (fun q => absurd hc q)⟩
        · exact Or.inl ⟨pc + 3, ls, r, μ, fun n k => if_neg hc, fun p e s m args below meth c cells slots A hC Q H locs lsA hL hI kk => lv_icmp_eq hC.1.1 hC.1.2.1 hd ht (fun q => absurd q hc) (fun _ => kk H locs lsA hL hI)⟩
      | _ => exact Or.inr (Or.inr (fun _ _ => rfl))
    | _ => exact Or.inr (Or.inr (fun _ _ => rfl))
theorem ok_CpNe {t nx : Nat} {off : Int} (hd : decode cc pc = .ok (.if_icmp .ne off, 3)) (ht : (pc : Int) + off = (t : Int)) (hn : pc + 3 = nx) : OkU (TXm l G R nL cc own) RX pc (oCpEq nx t) := by
  intro ls st μ
  subst hn
  rcases st with _ | ⟨v, _ | ⟨w, r⟩⟩
  · exact Or.inr (Or.inr (fun _ _ => rfl))
  · cases v <;> exact Or.inr (Or.inr (fun _ _ => rfl))
  · cases v with
    | int y =>
      cases w with
      | int x =>
        by_cases hc : x = y
        · exact Or.inl ⟨pc + 3, ls, r, μ, fun n k => if_pos hc, fun p e s m args below meth c cells slots A hC Q H locs lsA hL hI kk => lv_icmp_ne hC.1.1 hC.1.2.1 hd ht (fun q => absurd hc q) (fun _ => kk H locs lsA hL hI)⟩
        · exact Or.inl ⟨t, ls, r, μ, fun n k => if_neg hc, fun p e s m args below meth c cells slots A hC Q H locs lsA hL hI kk => lv_icmp_ne hC.1.1 hC.1.2.1 hd ht (fun _ => kk H locs lsA hL hI) (fun q => absurd q hc)⟩
      | _ => exact Or.inr (Or.inr (fun _ _ => rfl))
    | _ => exact Or.inr (Or.inr (fun _ _ => rfl))
theorem ok_CpLt {t nx : Nat} {off : Int} (hd : decode cc pc = .ok (.if_icmp .lt off, 3)) (ht : (pc : Int) + off = (t : Int)) (hn : pc + 3 = nx) : OkU (TXm l G R nL cc own) RX pc (oCpLt t nx) := by
  intro ls st μ
  subst hn
  rcases st with _ | ⟨v, _ | ⟨w, r⟩⟩
  · exact Or.inr (Or.inr (fun _ _ => rfl))
  · cases v <;> exact Or.inr (Or.inr (fun _ _ => rfl))
  · cases v with
    | int y =>
      cases w with
      | int x =>
        by_cases hc : x < y
        · exact Or.inl ⟨t, ls, r, μ, fun n k => if_pos hc, fun p e s m args below meth c cells slots A hC Q H locs lsA hL hI kk => lv_icmp_lt hC.1.1 hC.1.2.1 hd ht (fun _ => kk H locs lsA hL hI) (fun q => absurd hc q)⟩
        · exact Or.inl ⟨pc + 3, ls, r, μ, fun n k => if_neg hc, fun p e s m args below meth c cells slots A hC Q H locs lsA hL hI kk => lv_icmp_lt hC.1.1 hC.1.2.1 hd ht (fun q => absurd q hc) (fun _ => kk H locs lsA hL hI)⟩
      | _ => exact Or.inr (Or.inr (fun _ _ => rfl))
    | _ => exact Or.inr (Or.inr (fun _ _ => rfl))
theorem ok_CpGe {t nx : Nat} {off : Int} (hd : decode cc pc = .ok (.if_icmp .ge off, 3)) (ht : (pc : Int) + off = (t : Int)) (hn : pc + 3 = nx) : OkU (TXm l G R nL cc own) RX pc (oCpLt nx t) := by
  intro ls st μ
  subst hn
  rcases st with _ | ⟨v, _ | ⟨w, r⟩⟩
  · exact Or.inr (Or.inr (fun _ _ => rfl))
  · cases v <;> exact Or.inr (Or.inr (fun _ _ => rfl))
  · cases v with
    | int y =>
      cases w with
      | int x =>
        by_cases hc : x < y
        · exact Or.inl ⟨pc + 3, ls, r, μ, fun n k => if_pos hc, fun p e s m args below meth c cells slots A hC Q H locs lsA hL hI kk => lv_icmp_ge hC.1.1 hC.1.2.1 hd ht (fun q => absurd hc (Int32.not_lt.mpr q)) (fun _ => kk H locs lsA hL hI)⟩
        · exact Or.inl ⟨t, ls, r, μ, fun n k => if_neg hc, fun p e s m args below meth c cells slots A hC Q H locs lsA hL hI kk => lv_icmp_ge hC.1.1 hC.1.2.1 hd ht (fun _ => kk H locs lsA hL hI) (fun q => absurd (Int32.not_lt.mp hc) q)⟩
      | _ => exact Or.inr (Or.inr (fun _ _ => rfl))
    | _ => exact Or.inr (Or.inr (fun _ _ => rfl))
theorem ok_CpGt {t nx : Nat} {off : Int} (hd : decode cc pc = .ok (.if_icmp .gt off, 3)) (ht : (pc : Int) + off = (t : Int)) (hn : pc + 3 = nx) : OkU (TXm l G R nL cc own) RX pc (oCpGt t nx) := by
  intro ls st μ
  subst hn
  rcases st with _ | ⟨v, _ | ⟨w, r⟩⟩
  · exact Or.inr (Or.inr (fun _ _ => rfl))
  · cases v <;> exact Or.inr (Or.inr (fun _ _ => rfl))
  · cases v with
    | int y =>
      cases w with
      | int x =>
        by_cases hc : y < x
        · exact Or.inl ⟨t, ls, r, μ, fun n k => if_pos hc, fun p e s m args below meth c cells slots A hC Q H locs lsA hL hI kk => lv_icmp_gt hC.1.1 hC.1.2.1 hd ht (fun _ => kk H locs lsA hL hI) (fun q => absurd hc q)⟩
        · exact Or.inl ⟨pc + 3, ls, r, μ, fun n k => if_neg hc, fun p e s m args below meth c cells slots A hC Q H locs lsA hL hI kk => lv_icmp_gt hC.1.1 hC.1.2.1 hd ht (fun q => absurd q hc) (fun _ => kk H locs lsA hL hI)⟩
      | _ => exact Or.inr (Or.inr (fun _ _ => rfl))
    | _ => exact Or.inr (Or.inr (fun _ _ => rfl))
theorem ok_CpLe {t nx : Nat} {off : Int} (hd : decode cc pc = .ok (.if_icmp .le off, 3)) (ht : (pc : Int) + off = (t : Int)) (hn : pc + 3 = nx) : OkU (TXm l G R nL cc own) RX pc (oCpGt nx t) := by
  intro ls st μ
  subst hn
  rcases st with _ | ⟨v, _ | ⟨w, r⟩⟩
  · exact Or.inr (Or.inr (fun _ _ => rfl))
  · cases v <;> exact Or.inr (Or.inr (fun _ _ => rfl))
  · cases v with
    | int y =>
      cases w with
      | int x =>
        by_cases hc : y < x
        · exact Or.inl ⟨pc + 3, ls, r, μ, fun n k => if_pos hc, fun p e s m args below meth c cells slots A hC Q H locs lsA hL hI kk => lv_icmp_le hC.1.1 hC.1.2.1 hd ht (fun q => absurd hc (Int32.not_lt.mpr q)) (fun _ => kk H locs lsA hL hI)⟩
        · exact Or.inl ⟨t, ls, r, μ, fun n k => if_neg hc, fun p e s m args below meth c cells slots A hC Q H locs lsA hL hI kk => lv_icmp_le hC.1.1 hC.1.2.1 hd ht (fun _ => kk H locs lsA hL hI) (fun q => absurd (Int32.not_lt.mp hc) q)⟩
      | _ => exact Or.inr (Or.inr (fun _ _ => rfl))
    | _ => exact Or.inr (Or.inr (fun _ _ => rfl))
theorem ok_Dup {nx : Nat} (hd : decode cc pc = .ok (.dup, 1)) (hn : pc + 1 = nx) : OkU (TXm l G R nL cc own) RX pc (oDup nx) := by
  intro ls st μ
  subst hn
  rcases st with _ | ⟨v, r⟩
  · exact Or.inr (Or.inr (fun _ _ => rfl))
  · cases hb : Nat.beq v.category 1 with
    | false => exact Or.inr (Or.inr (fun n k => by simp only [oDup, hb, cond_false]))
    | true => exact Or.inl ⟨pc + 1, ls, v :: v :: r, μ, fun n k => by simp only [oDup, hb, cond_true], fun p e s m args below meth c cells slots A hC Q H locs lsA hL hI kk => lv_dup hC.1.1 hC.1.2.1 hd (by rw [cv_cat]; exact Nat.eq_of_beq_eq_true hb) (kk H locs lsA hL hI)⟩
theorem ok_Pop {nx : Nat} (hd : decode cc pc = .ok (.pop, 1)) (hn : pc + 1 = nx) : OkU (TXm l G R nL cc own) RX pc (oPop nx) := by
  intro ls st μ
  subst hn
  rcases st with _ | ⟨v, r⟩
  · exact Or.inr (Or.inr (fun _ _ => rfl))
  · cases hb : Nat.beq v.category 1 with
    | false => exact Or.inr (Or.inr (fun n k => by simp only [oPop, hb, cond_false]))
    | true => exact Or.inl ⟨pc + 1, ls, r, μ, fun n k => by simp only [oPop, hb, cond_true], fun p e s m args below meth c cells slots A hC Q H locs lsA hL hI kk => lv_pop hC.1.1 hC.1.2.1 hd (by rw [cv_cat]; exact Nat.eq_of_beq_eq_true hb) (kk H locs lsA hL hI)⟩
theorem ok_Dup2 {nx : Nat} (hd : decode cc pc = .ok (.dup2, 1)) (hn : pc + 1 = nx) : OkU (TXm l G R nL cc own) RX pc (oDup2 nx) := by
  intro ls st μ
  subst hn
  rcases st with _ | ⟨v, _ | ⟨w, r⟩⟩
  · exact Or.inr (Or.inr (fun _ _ => rfl))
  · exact Or.inr (Or.inr (fun _ _ => rfl))
  · cases hb : (Nat.beq v.category 1 && Nat.beq w.category 1) with
    | false => exact Or.inr (Or.inr (fun n k => by simp only [oDup2, hb, cond_false]))
    | true =>
      have hb2 := hb
      rw [Bool.and_eq_true] at hb2
      exact Or.inl ⟨pc + 1, ls, v :: w :: v :: w :: r, μ, fun n k => by simp only [oDup2, hb, cond_true], fun p e s m args below meth c cells slots A hC Q H locs lsA hL hI kk => lv_dup2_11 hC.1.1 hC.1.2.1 hd (by rw [cv_cat]; exact Nat.eq_of_beq_eq_true hb2.1) (by rw [cv_cat]; exact Nat.eq_of_beq_eq_true hb2.2) (kk H locs lsA hL hI)⟩
end OPS
