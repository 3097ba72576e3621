/-! making objects: rows over a world that grows -/
def Kst (G : Gm) (A : Nat → Prop) (U : State) : Prop := va_K G.1 classes (tysOf G) U ∧ (∀ w ∈ NW, va_Nw w U) ∧ (va_AO "ToastCourt$Disputant" U ∧ va_AO "ToastCourt$Sheet" U ∧ va_AO "java/lang/String" U) ∧ STR G A U U.heap
def WI (s : State) (G : Gm) (A : Nat → Prop) (ws : va_W) (H : Heap) (locs : List Loc) : Prop := va_P G.1 classes ws H ∧ va_D A ws ∧ va_S A s.heap H locs
def CxI (p : Program) (s : State) (m : MethodId) (args : Array Value) (c : Code) (nL : Nat) (cc : ByteArray) (own : String) (G : Gm) (A : Nat → Prop) : Prop :=
  (p.tables.exec = Jvm.exec ∧ c.code = cc ∧ c.maxLocals = nL ∧ s.vm.findClass own = some m.cls ∧ ∀ w ∈ TW, w.before args s = true) ∧ Kst G A s ∧ (∀ q, s.heap.size ≤ q → A q)
def rmI (d mc ms : Nat) : Room := { frames := d, cells := mc, slots := ms, locals := 40 * d }
def QI (G : Gm) (A : Nat → Prop) (B : (Nat → Nat) → va_W) : Array Value → State → Outcome → State → Prop := va_Qv (fun _ : Nat → Nat => True) (fun u t => va_P G.1 classes (B u) t.heap ∧ va_D A (B u)) A
def AI (h ci : Nat) (fs : List Value) (sz : Nat) : Nat → Prop := va_A [(h, .inr (ci, fs))] sz
/-- a constructor's contract: the object alone at first, then what it has made beside it -/
def CTI (l : Launch) (G : Gm) (y : MethodName) (ws : List Cond) (d ci : Nat) (fs : List Value) (B : Nat → (Nat → Nat) → va_W) (mc ms : Nat) : Prop :=
  ∀ h sz : Nat, Met l y ws (rmI d mc ms) (va_Pc [.ref h] (fun U => U.heap.size = sz ∧ Kst G (AI h ci fs sz) U ∧ va_P G.1 classes [(h, .inr (ci, fs))] U.heap)) (QI G (AI h ci fs sz) (B h)) mc ms (AI h ci fs sz)
theorem Kst_call {G : Gm} {A B : Nat → Prop} {s U : State} {H : Heap} {locs : List Loc} (h : Kst G A s) (hS : va_S A s.heap H locs) (hAB : ∀ q, B q → A q) (hU : U.heap = H) (hW : s.WarmedH U.vm) : Kst G B U :=
  ⟨va_K.moved hW.alike h.1, NW_warm hW h.2.1, ⟨h.2.2.1.1.moved hW.alike, h.2.2.1.2.1.moved hW.alike, h.2.2.1.2.2.moved hW.alike⟩, STR_call h.2.2.2 hS hAB hU hW⟩
theorem blindI {G : Gm} {A : Nat → Prop} {av : List Value} {sz : Nat} {ws : va_W} : FrameBlind (va_Pc av (fun U => U.heap.size = sz ∧ Kst G A U ∧ va_P G.1 classes ws U.heap)) := by
  intro a U g mk ⟨q0, q1, ⟨h2, h4, ⟨a1, a2, a3⟩, h5, h6, h7, h8⟩, hP⟩
  refine ⟨q0, q1, ⟨va_K.moved (u := U) (U := U.calling g mk a) (Vm.Alike.refl U.vm) h2, fun w hw => va_Nw.same (u := U) (U := U.calling g mk a) (NW_tab hw) rfl (h4 w hw), ⟨a1.moved (u := U) (U := U.calling g mk a) (Vm.Alike.refl U.vm), a2.moved (u := U) (U := U.calling g mk a) (Vm.Alike.refl U.vm), a3.moved (u := U) (U := U.calling g mk a) (Vm.Alike.refl U.vm)⟩, h5.moved (u := U) (U := U.calling g mk a) (Vm.Alike.refl U.vm), h6.moved (u := U) (U := U.calling g mk a) (Vm.Alike.refl U.vm), h7.moved (u := U) (U := U.calling g mk a) (Vm.Alike.refl U.vm), fun q hq => vk_R.same (u := U) (U := U.calling g mk a) rfl (h8 q hq)⟩, hP⟩
section MAKE
variable {p : Program} {l : Launch} {e : Env} {R : Room} {s : State} {m : MethodId} {args : Array Value} {below : List Frame} {meth : Method} {c : Code} {H : Heap} {locs : List Loc} {cells slots : Nat} {Q : State → Prop}
variable {cc : ByteArray} {pc nL : Nat} {own : String} {ls : Array Slot} {rest : List Value} {G : Gm} {A : Nat → Prop} {ws : va_W} {a : Nat}
theorem n_new {ci index : Nat} {fs : List Value} (hC : CxI p s m args c nL cc own G A) (hI : WI s G A ws H locs) (hci : ci < 6) (w1 : Cond.classLink own index (Rc ci) ∈ TW) (w2 : Cond.instantiable (Rc ci) (Nf ci) ∈ TW) (w3 : Cond.initialized (Rc ci) ∈ TW) (hfs : ∀ j, j < Nf ci → defaultValue (tyc ci j) = vp_V fs j) (hcells : cells + 1 ≤ R.cells) (hslots : slots + Nf ci ≤ R.slots) (hd : decode cc pc = .ok (.new index, 3))
    (kk : ∀ (q : Nat) (H : Heap), WI s G A (ws ++ [(q, .inr (ci, fs))]) H locs → W p l e R s m args below meth c H locs (cells + 1) (slots + Nf ci) Q (F0 m (pc + 3) ls (.ref q :: rest))) : W p l e R s m args below meth c H locs cells slots Q (F0 m pc ls rest) :=
  va_new hC.1.1 hC.1.2.1 hC.1.2.2.2.2 (in_c ci hci) (tyc ci) (ty_c ci hci) hC.1.2.2.2.1 (hC.1.2.2.2.2 _ w1) (hC.1.2.2.2.2 _ w2) (hC.1.2.2.2.2 _ w3) hC.2.1.1 hI.1 hI.2.1 hI.2.2 hC.2.2 (cls_at ci hci) hfs hcells hslots hd (fun q H1 h1 h2 h3 => kk q H1 ⟨h1, h2, h3⟩)
theorem n_newa {n : Int32} {N : Nat} (hC : CxI p s m args c nL cc own G A) (hI : WI s G A ws H locs) (hn : ¬ n < 0) (hN : n.toNatClampNeg = N) (hbytes : N * componentBytes .int ≤ 536870912) (hcells : cells + 1 ≤ R.cells) (hslots : slots + N ≤ R.slots) (hd : decode cc pc = .ok (.newarray .int, 2))
    (kk : ∀ (q : Nat) (H : Heap), WI s G A (ws ++ [(q, .inl (G.2.2.1 0, N, .inl (fun _ => 0)))]) H locs → W p l e R s m args below meth c H locs (cells + 1) (slots + N) Q (F0 m (pc + 2) ls (.ref q :: rest))) : W p l e R s m args below meth c H locs cells slots Q (F0 m pc ls (.int n :: rest)) := by
  refine va_newa (atype := .int) (ty := .int) (a0 := (N, .inl (fun _ => 0))) hC.1.1 hC.1.2.1 (hC.1.2.2.2.2 _ q66) rfl hC.2.1.1 hI.1 hI.2.1 hI.2.2 hC.2.2 (fun cA => rfl) hn hN hbytes hcells hslots hd (fun q cA H1 hK h1 h2 h3 => ?_)
  have h4 : s.vm.findClass ("[" ++ FieldType.int.toString) = some cA := (hK.2 4 (cA, .int) rfl).2
  have h5 : s.vm.findClass ("[" ++ FieldType.int.toString) = some (G.2.2.1 0) := (hC.2.1.1.2 0 (G.2.2.1 0, .int) rfl).2
  have e5 : cA = G.2.2.1 0 := Option.some.inj (h4.symm.trans h5)
  subst e5
  exact kk q H1 ⟨h1, h2, h3⟩
theorem n_newq {C : String} {cT : ClassId} {n : Int32} {N t index : Nat} (hC : CxI p s m args c nL cc own G A) (hI : WI s G A ws H locs) (ht : (tysOf G)[t]? = some (cT, .object C)) (hao : va_AO C s) (w1 : Cond.classLink own index C ∈ TW) (hn : ¬ n < 0) (hN : n.toNatClampNeg = N) (hbytes : N * 4 ≤ 536870912) (hcells : cells + 1 ≤ R.cells) (hslots : slots + N ≤ R.slots) (hd : decode cc pc = .ok (.anewarray index, 3))
    (kk : ∀ (q : Nat) (H : Heap), WI s G A (ws ++ [(q, .inl (cT, N, .inr (.inr (.inr (.inr (fun _ => none))))))]) H locs → W p l e R s m args below meth c H locs (cells + 1) (slots + N) Q (F0 m (pc + 3) ls (.ref q :: rest))) : W p l e R s m args below meth c H locs cells slots Q (F0 m pc ls (.int n :: rest)) := by
  refine va_newq hC.1.1 hC.1.2.1 hC.1.2.2.2.1 (hC.1.2.2.2.2 _ w1) hao hC.2.1.1 hI.1 hI.2.1 hI.2.2 hC.2.2 hn hN hbytes hcells hslots hd (fun q cA H1 hK h1 h2 h3 => ?_)
  obtain ⟨-, -, -, -, -, h4⟩ := (hK.2 4 (cA, .object C) rfl).2
  obtain ⟨-, -, -, -, -, h5⟩ := (hC.2.1.1.2 t _ ht).2
  have e5 : cA = cT := Option.some.inj (h4.symm.trans h5)
  subst e5
  exact kk q H1 ⟨h1, h2, h3⟩
theorem n_put {ci k index : Nat} {fs : List Value} {v : Value} (hC : CxI p s m args c nL cc own G A) (hI : WI s G A ws H locs) (q0 : Nat) (he : ws[q0]? = some (a, .inr (ci, fs))) (hci : ci < 6) (hk : k < Nf ci) (w : Cond.fieldLink own index (Tc ci k).1 (Tc ci k).2.1 (Tc ci k).2.2.1 ∈ TW) (hfin : (Tc ci k).2.2.2 = false) (hn : narrow (tyc ci k) v = v) (hfit : fits (tyc ci k) v = true) (hl : k < fs.length) (hd : decode cc pc = .ok (.putfield index, 3))
    (kk : ∀ (H : Heap) (locs : List Loc), WI s G A (ws.set q0 (a, .inr (ci, fs.set k v))) H locs → W p l e R s m args below meth c H locs cells slots Q (F0 m (pc + 3) ls rest)) : W p l e R s m args below meth c H locs cells slots Q (F0 m pc ls (v :: .ref a :: rest)) :=
  va_put hC.1.1 hC.1.2.1 hC.1.2.2.2.2 (in_c ci hci) (tyc ci) (ty_c ci hci) (nm_c ci hci) hC.1.2.2.2.1 hC.2.1.1 hI.1 hI.2.1 hI.2.2 q0 he (cls_at ci hci) k hk (hC.1.2.2.2.2 _ w) (fun _ h => h) hfin (ty_c ci hci k hk) hn hfit hl hd (fun H1 locs1 h1 h2 h3 => kk H1 locs1 ⟨h1, h2, h3⟩)
theorem n_putF {ci k index : Nat} {fs : List Value} {v : Value} (hC : CxI p s m args c nL cc own G A) (hI : WI s G A ws H locs) (hin : meth.name = "<init>") (q0 : Nat) (he : ws[q0]? = some (a, .inr (ci, fs))) (hci : ci < 6) (hk : k < Nf ci) (w : Cond.fieldLink own index (Tc ci k).1 (Tc ci k).2.1 (Tc ci k).2.2.1 ∈ TW) (hfin : (Tc ci k).2.2.2 = true) (hdecl : (Tc ci k).1 = own) (hn : narrow (tyc ci k) v = v) (hfit : fits (tyc ci k) v = true) (hl : k < fs.length) (hd : decode cc pc = .ok (.putfield index, 3))
    (kk : ∀ (H : Heap) (locs : List Loc), WI s G A (ws.set q0 (a, .inr (ci, fs.set k v))) H locs → W p l e R s m args below meth c H locs cells slots Q (F0 m (pc + 3) ls rest)) : W p l e R s m args below meth c H locs cells slots Q (F0 m pc ls (v :: .ref a :: rest)) :=
  va_putF hC.1.1 hC.1.2.1 hC.1.2.2.2.2 (in_c ci hci) (tyc ci) (ty_c ci hci) (nm_c ci hci) hC.1.2.2.2.1 hC.2.1.1 hI.1 hI.2.1 hI.2.2 q0 he (cls_at ci hci) k hk (hC.1.2.2.2.2 _ w) (fun _ h => h) hfin hin hdecl (ty_c ci hci k hk) hn hfit hl hd (fun H1 locs1 h1 h2 h3 => kk H1 locs1 ⟨h1, h2, h3⟩)
theorem n_get {ci k index : Nat} {fs : List Value} {v : Value} (hC : CxI p s m args c nL cc own G A) (hI : WI s G A ws H locs) (q0 : Nat) (he : ws[q0]? = some (a, .inr (ci, fs))) (hci : ci < 6) (hk : k < Nf ci) (w : Cond.fieldLink own index (Tc ci k).1 (Tc ci k).2.1 (Tc ci k).2.2.1 ∈ TW) (hv : fs[k]? = some v) (hd : decode cc pc = .ok (.getfield index, 3))
    (kk : W p l e R s m args below meth c H locs cells slots Q (F0 m (pc + 3) ls (v :: rest))) : W p l e R s m args below meth c H locs cells slots Q (F0 m pc ls (.ref a :: rest)) :=
  va_get hC.1.1 hC.1.2.1 hC.1.2.2.2.2 (in_c ci hci) hC.1.2.2.2.1 hC.2.1.1 hI.1 q0 he (cls_at ci hci) k hk (hC.1.2.2.2.2 _ w) (fun _ h => h) hv hd kk
theorem n_iast {n : Nat} {f : Nat → Int32} {i x : Int32} (hC : CxI p s m args c nL cc own G A) (hI : WI s G A ws H locs) (q0 : Nat) (ha : ws[q0]? = some (a, .inl (G.2.2.1 0, n, .inl f))) (hin : vp_in i n) (hd : decode cc pc = .ok (.iastore, 1))
    (kk : ∀ (H : Heap) (locs : List Loc), WI s G A (ws.set q0 (a, .inl (G.2.2.1 0, n, .inl (upd f i.toNatClampNeg x)))) H locs → W p l e R s m args below meth c H locs cells slots Q (F0 m (pc + 1) ls rest)) : W p l e R s m args below meth c H locs cells slots Q (F0 m pc ls (.int x :: .int i :: .ref a :: rest)) :=
  va_iast hC.1.1 hC.1.2.1 hC.2.1.1 hI.1 hI.2.1 hI.2.2 q0 0 ha rfl hin hd (fun H1 locs1 h1 h2 h3 => kk H1 locs1 ⟨h1, h2, h3⟩)
theorem n_astq {ci t n v : Nat} {cT : ClassId} {vs : List Value} {f : Nat → Option Nat} {i : Int32} (hC : CxI p s m args c nL cc own G A) (hI : WI s G A ws H locs) (q0 qk : Nat) (ha : ws[q0]? = some (a, .inl (cT, n, .inr (.inr (.inr (.inr f)))))) (ht : (tysOf G)[t]? = some (cT, .object (Rc ci))) (hv : ws[qk]? = some (v, .inr (ci, vs))) (hci : ci < 6) (hin : vp_in i n) (hd : decode cc pc = .ok (.aastore, 1))
    (kk : ∀ (H : Heap) (locs : List Loc), WI s G A (ws.set q0 (a, .inl (cT, n, .inr (.inr (.inr (.inr (va_up f i.toNatClampNeg (some v)))))))) H locs → W p l e R s m args below meth c H locs cells slots Q (F0 m (pc + 1) ls rest)) : W p l e R s m args below meth c H locs cells slots Q (F0 m pc ls (.ref v :: .int i :: .ref a :: rest)) :=
  va_astq hC.1.1 hC.1.2.1 hC.2.1.1 hI.1 hI.2.1 hI.2.2 q0 t qk ci ha ht hv (cls_at ci hci) hin hd (fun H1 locs1 h1 h2 h3 => kk H1 locs1 ⟨h1, h2, h3⟩)
/-- a text laid into a row of texts -/
theorem n_astS {n j : Nat} {f : Nat → Option Nat} {i : Int32} (hC : CxI p s m args c nL cc own G A) (hI : WI s G A ws H locs) (q0 : Nat) (ha : ws[q0]? = some (a, .inl (G.2.2.1 3, n, .inr (.inr (.inr (.inr f)))))) (hj : j < 13) (hin : vp_in i n) (hd : decode cc pc = .ok (.aastore, 1))
    (kk : ∀ (H : Heap) (locs : List Loc), WI s G A (ws.set q0 (a, .inl (G.2.2.1 3, n, .inr (.inr (.inr (.inr (va_up f i.toNatClampNeg (some (G.2.1 (61 + j))))))))) ) H locs → W p l e R s m args below meth c H locs cells slots Q (F0 m (pc + 1) ls rest)) : W p l e R s m args below meth c H locs cells slots Q (F0 m pc ls (.ref (G.2.1 (61 + j)) :: .int i :: .ref a :: rest)) := by
  obtain ⟨cell, h1, h2, h3⟩ := vk_recv (i := j) hC.2.1.2.2.2.1 hj hI.2.2
  obtain ⟨kC, hkC, -⟩ := Vm.findClass_spec h3
  exact va_astqM (E := "java/lang/String") hC.1.1 hC.1.2.1 hC.2.1.1 hI.1 hI.2.1 hI.2.2 q0 3 ha rfl ⟨cell, h1, h2, ⟨kC, hkC⟩, fun comp h => by rw [h3] at h; cases h; exact va_asg _ _⟩ hin hd (fun H1 locs1 h1 h2 h3 => kk H1 locs1 ⟨h1, h2, h3⟩)
theorem n_ldS {index i : Nat} {tx : String} (hC : CxI p s m args c nL cc own G A) (hd : decode cc pc = .ok (.ldc index, 2)) (hq : (own, index, tx, i) ∈ strTab)
    (kk : W p l e R s m args below meth c H locs cells slots Q (F0 m (pc + 2) ls (.ref (G.2.1 (61 + i)) :: rest))) : W p l e R s m args below meth c H locs cells slots Q (F0 m pc ls rest) :=
  va_ldcS (tx := tx) hC.1.1 hC.1.2.1 hC.1.2.2.2.1 (hC.2.1.2.2.2.2.2.2 _ hq) hd kk
theorem n_obj {idx : Nat} (hC : CxI p s m args c nL cc own G A) (hs : ls.size = nL) (w1 : Cond.methodLink own idx Lib.objectInit ∈ TW) (hd : decode cc pc = .ok (.invokespecial idx, 3)) (h1 : 1 ≤ R.frames) (h2 : 12 ≤ R.locals)
    (kk : W p l e R s m args below meth c H locs cells slots Q (F0 m (pc + 3) ls [])) : W p l e R s m args below meth c H locs cells slots Q (F0 m pc ls [.ref a]) :=
  W.objInit hC.1.1 hC.1.2.1 hC.1.2.2.2.1 (hC.1.2.2.2.2 _ w1) (hC.1.2.2.2.2 _ q20) (hC.1.2.2.2.2 _ q21) rfl (hs.trans hC.1.2.2.1.symm) rfl hd h1 h2 kk
theorem n_callR {mc ms ci q : Nat} {fs : List Value} {B : Nat → (Nat → Nat) → va_W} {wr : va_W} {av : Array Value} (hr : va_Run p l e R s m args below meth c H locs cells slots mc ms (F0 m pc ls (.ref q :: rest)) rest (QI G (AI q ci fs H.size) (B q) av) (AI q ci fs H.size)) (hC : CxI p s m args c nL cc own G A) (hI : WI s G A ws H locs) (q0 : Nat) (he : [q0].map (fun i => ws[i]?) = [(q, (.inr (ci, fs) : va_E))].map some) (isR : List Nat) (hR : isR.map (fun i => ws[i]?) = wr.map some) (hn : va_nd isR = true) (hdis : ∀ i ∈ isR, i ∉ [q0])
    (kk : ∀ (u : Nat → Nat) (H : Heap) (locs : List Loc), WI s G A (wr ++ B q u) H locs → W p l e R s m args below meth c H locs (cells + mc) (slots + ms) Q (F0 m (pc + 3) ls rest)) : W p l e R s m args below meth c H locs cells slots Q (F0 m pc ls (.ref q :: rest)) := by
  have hFc := va_free (wc := [(q, .inr (ci, fs))]) hI.2.1 hI.2.2 hC.2.2 [q0] he
  refine va_callv hr hI.2.2 (fun q _ h => hFc q h) hFc (fun u t H1 locs1 ht hvm hw hB hz1 hk1 hS => ?_)
  obtain ⟨hP1, hD1⟩ := hB
  rw [ht] at hP1
  obtain ⟨hP, hD⟩ := va_join (wr := wr) (w1 := B q u) hI.1 hI.2.1 [q0] isR he hR hn hdis hk1 hFc hP1 hD1
  exact kk u H1 locs1 ⟨hP, hD, hS⟩
theorem preI {ci q q0 : Nat} {fs : List Value} (hC : CxI p s m args c nL cc own G A) (hI : WI s G A ws H locs) (he : [q0].map (fun i => ws[i]?) = [(q, (.inr (ci, fs) : va_E))].map some) : PreS s H (va_Pc [.ref q] (fun U => U.heap.size = H.size ∧ Kst G (AI q ci fs H.size) U ∧ va_P G.1 classes [(q, .inr (ci, fs))] U.heap)) [.ref q] := by
  have hFc := va_free (wc := [(q, .inr (ci, fs))]) hI.2.1 hI.2.2 hC.2.2 [q0] he
  have hP1 : ws[q0]? = some (q, .inr (ci, fs)) := (List.cons.inj he).1
  have hPc := hI.1.sub (ws' := [(q, .inr (ci, fs))]) [q0] (by simp [hP1])
  exact ⟨blindI, fun U hU hW => ⟨rfl, by rw [hU], Kst_call hC.2.1 hI.2.2 hFc hU hW, by rw [hU]; exact hPc⟩⟩
theorem n_callN {y : MethodName} {bytes : ByteArray} {maxL d mc ms ci q index : Nat} {host : String} {fs : List Value} {B : Nat → (Nat → Nat) → va_W} {wr : va_W} (hM : CTI l G y (wsOf y bytes maxL none) d ci fs B mc ms) (hC : CxI p s m args c nL cc own G A) (hI : WI s G A ws H locs) (hs : ls.size = nL) (q0 : Nat) (he : [q0].map (fun i => ws[i]?) = [(q, (.inr (ci, fs) : va_E))].map some) (isR : List Nat) (hR : isR.map (fun i => ws[i]?) = wr.map some) (hn : va_nd isR = true) (hdis : ∀ i ∈ isR, i ∉ [q0])
    (w1 : Cond.methodLinkNest own index y host ∈ NW) (w2 : Cond.instanceMethod y ∈ TW) (w4 : Cond.initialized y.cls ∈ TW) (w5 : Cond.code y bytes maxL none ∈ TW) (hy : y.name = "<init>")
    (hp : y.cls ≠ "java/lang/invoke/MethodHandle" ∧ y.cls ≠ "java/lang/invoke/VarHandle" ∧ (parseMethodDescriptor y.desc).map (fun d => d.parameters.length) = some 0) (hRm : d + 1 ≤ R.frames ∧ 8 + (maxL + 11) + 40 * d ≤ R.locals) (hrs : (rest.map fun v => v.category).sum ≤ 8) (hd : decode cc pc = .ok (.invokespecial index, 3)) (hf : cells + mc ≤ R.cells ∧ slots + ms ≤ R.slots)
    (kk : ∀ (u : Nat → Nat) (H : Heap) (locs : List Loc), WI s G A (wr ++ B q u) H locs → W p l e R s m args below meth c H locs (cells + mc) (slots + ms) Q (F0 m (pc + 3) ls rest)) : W p l e R s m args below meth c H locs cells slots Q (F0 m pc ls (.ref q :: rest)) :=
  n_callR (va_runIN (n := 0) (As := []) (rest := rest) hC.1 (hM q H.size) ⟨va_cnB 0 hC.1.2.2.2.2 (good_ws w5) rfl rfl rfl (hC.2.1.2.1 _ w1) (hC.1.2.2.2.2 _ w4) hp hRm, hy, hC.1.2.2.2.2 _ w2⟩ (preI hC hI he) rfl rfl hs rfl (lv_room hrs) hd hf) hC hI q0 he isR hR hn hdis kk
theorem n_callP {y : MethodName} {bytes : ByteArray} {maxL d mc ms ci q index : Nat} {fs : List Value} {B : Nat → (Nat → Nat) → va_W} {wr : va_W} (hM : CTI l G y (wsOf y bytes maxL none) d ci fs B mc ms) (hC : CxI p s m args c nL cc own G A) (hI : WI s G A ws H locs) (hs : ls.size = nL) (q0 : Nat) (he : [q0].map (fun i => ws[i]?) = [(q, (.inr (ci, fs) : va_E))].map some) (isR : List Nat) (hR : isR.map (fun i => ws[i]?) = wr.map some) (hn : va_nd isR = true) (hdis : ∀ i ∈ isR, i ∉ [q0])
    (w1 : Cond.methodLink own index y ∈ TW) (w2 : Cond.instanceMethod y ∈ TW) (w4 : Cond.initialized y.cls ∈ TW) (w5 : Cond.code y bytes maxL none ∈ TW) (hy : y.name = "<init>")
    (hp : y.cls ≠ "java/lang/invoke/MethodHandle" ∧ y.cls ≠ "java/lang/invoke/VarHandle" ∧ (parseMethodDescriptor y.desc).map (fun d => d.parameters.length) = some 0) (hRm : d + 1 ≤ R.frames ∧ 8 + (maxL + 11) + 40 * d ≤ R.locals) (hrs : (rest.map fun v => v.category).sum ≤ 8) (hd : decode cc pc = .ok (.invokespecial index, 3)) (hf : cells + mc ≤ R.cells ∧ slots + ms ≤ R.slots)
    (kk : ∀ (u : Nat → Nat) (H : Heap) (locs : List Loc), WI s G A (wr ++ B q u) H locs → W p l e R s m args below meth c H locs (cells + mc) (slots + ms) Q (F0 m (pc + 3) ls rest)) : W p l e R s m args below meth c H locs cells slots Q (F0 m pc ls (.ref q :: rest)) :=
  n_callR (va_runI (n := 0) (As := []) (rest := rest) hC.1 (hM q H.size) ⟨callB_of 0 hC.1.2.2.2.2 (good_ws w5) rfl rfl rfl (hC.1.2.2.2.2 _ w4) (hC.1.2.2.2.2 _ w1) hp hRm, hy, hC.1.2.2.2.2 _ w2⟩ (preI hC hI he) rfl rfl hs rfl (lv_room hrs) hd hf) hC hI q0 he isR hR hn hdis kk
theorem n_vret {B : (Nat → Nat) → va_W} (hC : CxI p s m args c nL cc own G A) (hS : va_S A s.heap H locs) (hr : meth.sig.returnType = none) (hk : meth.locks = false) (hd : decode cc pc = .ok (.return_, 1)) (u : Nat → Nat) (hP : va_P G.1 classes (B u) H) (hD : va_D A (B u)) : W p l e R s m args below meth c H locs cells slots (MQ below (QI G A B) args s cells slots A) (F0 m pc ls []) :=
  W.vret hC.1.1 hC.1.2.1 hr (fun t ht hW => ⟨⟨u, rfl, trivial, by rw [ht]; exact hP, hD⟩, hS.F ht⟩) hS.2.2 hd hk
end MAKE
/-- the contract out of a walk -/
theorem met_I {l : Launch} {G : Gm} {y : MethodName} {cc : ByteArray} {maxL d ci mc ms : Nat} {fs : List Value} {own : String} {B : Nat → (Nat → Nat) → va_W} (hy : plainName y.cls = true) (hown : y.cls = own) (hn : y.name = "<init>") (hL : 1 ≤ maxL)
    (h : ∀ (hh : Nat) (p : Program) (e : Env) (s : State) (m : MethodId) (args : Array Value) (below : List Frame) (meth : Method) (c : Code) (A : Nat → Prop) (ls : Array Slot), CxI p s m args c maxL cc own G A → meth.name = "<init>" → meth.sig.returnType = none → meth.locks = false → WI s G A [(hh, .inr (ci, fs))] s.heap [] → lv_has ls maxL [(0, .ref hh)] → W p l e (rmI d mc ms) s m args below meth c s.heap [] 0 0 (MQ below (QI G A (B hh)) args s mc ms A) (F0 m 0 ls [])) : CTI l G y (wsOf y cc maxL none) d ci fs B mc ms := by
  intro hh sz
  refine Met.ofW (cc := cc) (maxL := maxL) (ret := none) hy rfl ?_
  intro p e s m args below meth c s₁ Bd hml hv
  obtain ⟨rfl, hsz, hK, hP⟩ := hv
  subst hsz
  have hts := atoms_spec (ws := wsOf y cc maxL none) Bd.pre
  have hl := lv_entry ([.ref hh]) (n := maxL) (by exact hL)
  have hnm : meth.name = "<init>" := ((name_of_methodNamed Bd.named Bd.method).1).trans hn
  rw [lg_entry_eq]
  exact h hh p e s m _ below meth c (AI hh ci fs s.heap.size) _ ⟨⟨Bd.exec, Bd.bytes, hml, by rw [← hown]; exact findClass_of_methodNamed Bd.named, fun w hw => hts w (List.mem_cons_of_mem _ hw)⟩, hK, fun q hq => Or.inr hq⟩ hnm Bd.returns Bd.notSynchronized ⟨hP, ⟨fun i j p q hp hq e => by
    rcases i with _ | i
    · rcases j with _ | j
      · rfl
      · simp at hq
    · simp at hp, fun k q hk => va_A.in hk⟩, va_S.rf⟩ hl
theorem arrV_ext {cA : ClassId} {n : Nat} {f g : Nat → Value} (h : ∀ j, j < n → f j = g j) : arrV cA n f = arrV cA n g := by
  unfold arrV
  congr 2
  funext j
  exact h j.val j.isLt
/-- a row of references is what lies at its places -/
theorem P_row {D : va_G} {cl : List vw_C} {A : Nat → Prop} {ws : va_W} {H : Heap} {q0 a n : Nat} {cA : ClassId} {f : Nat → Option Nat} (g : Nat → Option Nat) (hP : va_P D cl ws H) (hD : va_D A ws) (he : ws[q0]? = some (a, .inl (cA, n, .inr (.inr (.inr (.inr f)))))) (h : ∀ j, j < n → f j = g j) : va_P D cl (ws.set q0 (a, .inl (cA, n, .inr (.inr (.inr (.inr g)))))) H := by
  refine hP.set hD he ?_ (fun _ _ => rfl)
  have h1 : H[a]? = some (vp_cell cA (n, .inr (.inr (.inr (.inr f))))) := hP q0 _ he
  show H[a]? = some (vp_cell cA (n, .inr (.inr (.inr (.inr g)))))
  rw [h1, vp_cell_q, vp_cell_q]
  exact congrArg some (arrV_ext (fun j hj => by rw [h j hj]))
/-- rows that are filled with one number -/
def flF (v : Int32) : Nat → Nat → (Nat → Int32) → Nat → Int32
  | 0, _, f => f
  | n + 1, i, f => flF v n (i + 1) (upd f i v)
