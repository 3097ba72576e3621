/-! THE CLAIM OUT OF ONE WALK OF THE LAW'S BODY. Your part is whole_start (and what it stands on); all else here is the same for every law, but numbers. -/
def R_law : String := "ToastCourtLaw"
def lw_P (b : Addr) (xs : List Int32) (args : Array Value) (s : State) : Prop := args = #[.ref b] ∧ s.IntsAt b xs ∧ xs.length ≤ 3072 ∧ (Jvm.Cond.and given_1 narrow_1).before args s = true
def lw_Q (_ : Array Value) (s : State) (o : Outcome) (t : State) : Prop := o = .returned (some (.int 1)) ∧ Framed s o t [] 600000 7302250
def lw_Z (below : List Frame) (a : Array Value) (s : State) : State → Prop := fun t => ∃ o, t.status = .running ∧ Ended t below o ∧ lw_Q a s o t
/-- the law's own end, with 1 on the stack, nothing written that was there before, its room as the claim has it -/
theorem lw_ret {p : Program} {l : Launch} {e : Env} {s : State} {m : MethodId} {below : List Frame} {meth : Method} {c : Code} {b : Nat} (hx : p.tables.exec = Jvm.exec) (hb : c.code = code) (hr : meth.sig.returnType = ret) (hlocks : meth.locks = false) {pc : Nat} {H : Heap} {ls : Array Slot} (hdg : decode code pc = .ok (.ireturn, 1)) : W p l e room_1 s m #[Value.ref b] below meth c H [] 600000 7302250 (lw_Z below #[Value.ref b] s) (F0 m pc ls [.int 1]) := by
  intro T hT X
  obtain ⟨fs, hret, hrun, hended, hW, hframe⟩ := X.leave (v := some (.int 1)) (hlocks := hlocks) (fun h => by rw [hr] at h; cases h)
  have hmeth' : T.vm.method? m = some meth := X.method'
  refine ⟨T.setFrames fs, ?_, .returned (some (.int 1)), hrun, hended, rfl, ⟨_, rfl⟩, hW, hframe⟩
  jvm_step X.here [X.here.top, hx, hb, hdg, hmeth', hr, ret, narrow_b1]
  (try refine ⟨rfl, ?_⟩); (try refine ⟨rfl, ?_⟩)
  first | (intro acts; rw [hret _ acts rfl rfl rfl]) | rw [hret _ _ rfl rfl rfl]
  exact Steps.refl _
/-- what holds at the law's entry: the machine, the code, the tables' words (any of lw_tbl by 'hts w (by decide +kernel)'), the script of L ints xs at the cell b, what the Statement gives of the start (any of its parts by flat_of_before) -/
def lw_At (p : Program) (s : State) (m : MethodId) (meth : Method) (c : Code) (b L : Nat) (xs : Nat → Int32) : Prop :=
  p.tables.exec = Jvm.exec ∧ c.code = code ∧ meth.sig.returnType = ret ∧ c.maxLocals = 4 ∧ s.vm.findClass R_law = some m.cls ∧ (∀ w ∈ lw_tbl, w.before #[Value.ref b] s = true) ∧ va_X b L xs s s.heap ∧ b < s.heap.size ∧ meth.locks = false ∧ (Jvm.Cond.and given_1 narrow_1).before #[Value.ref b] s = true
theorem nI_sub6 {L : Nat} (h : 6 ≤ L) : nI L - 6 = nI (L - 6) := by
  have e : nI L = nI (L - 6) + 6 := by
    rw [show (6 : Int32) = nI 6 from rfl, nI_add]
    congr 1
    omega
  rw [e, Int32.add_sub_cancel]
theorem out_T {L i : Nat} (hi : i < 100000) (h : L < i + 6) : nI L - 6 < nI i := by
  rcases Nat.lt_or_ge L 6 with q | q
  · have h0 : nI L - 6 < 0 := by
      rcases (show L = 0 ∨ L = 1 ∨ L = 2 ∨ L = 3 ∨ L = 4 ∨ L = 5 by omega) with rfl | rfl | rfl | rfl | rfl | rfl <;> decide
    exact Int32.lt_of_lt_of_le h0 (nI_pos' (by omega))
  · rw [nI_sub6 q]
    exact nI_lt (by omega) (by omega)
theorem out_F {L i : Nat} (hL : L < 100000) (h : i + 6 ≤ L) : ¬ nI L - 6 < nI i := by
  rw [nI_sub6 (by omega)]
  exact nI_nlt (by omega) (by omega)
section LOOP
variable {p : Program} {l : Launch} {e : Env} {s : State} {m : MethodId} {below : List Frame} {meth : Method} {c : Code} {cells slots : Nat} {G : Gm} {A : Nat → Prop} {b L : Nat} {xs : Nat → Int32}
set_option maxHeartbeats 4000000 in
set_option maxRecDepth 100000 in
theorem law_exit (hC : CxD p room_1 s m #[Value.ref b] meth c cells slots 4 code RL G A) (hX : XL G L xs s A) (hAs : ∀ q, A q → s.heap.size ≤ q) (hcs : cells ≤ 600000 ∧ slots ≤ 7302250) (hr : meth.sig.returnType = ret) (hk : meth.locks = false) {i : Nat} (hi : i < 100000) (ho : L < i + 6) {H : Heap} {locs : List Loc} {ls : Array Slot} {μ : Mem} (hI : HI s G A μ H locs) (hl : lv_has ls 4 [(0, .ref (G.2.1 87)), (1, .ref (G.2.1 0)), (2, .ref (G.2.1 49)), (3, .int (nI i))]) : W p l e room_1 s m #[Value.ref b] below meth c H locs cells slots (lw_Z below #[Value.ref b] s) (F0 m 18 ls []) := by
  refine lv_iload_n hC.1.1 hC.1.2.1 d_L_law_18 rfl (lv_at hl 3 rfl) ?_
  refine lv_aload_n hC.1.1 hC.1.2.1 d_L_law_19 rfl (lv_at hl 0 rfl) ?_
  refine va_slen hC.1.1 hC.1.2.1 hX.1 hX.2.1 hX.2.2 hI.2 d_L_law_20 ?_
  refine lv_bipush (v := 6) hC.1.1 hC.1.2.1 d_L_law_21 (by decide) ?_
  refine lv_isub hC.1.1 hC.1.2.1 d_L_law_23 ?_
  refine lv_icmp_gt (tgt := 1536) hC.1.1 hC.1.2.1 d_L_law_24 (by decide) (fun _ => ?_) (fun z => absurd (out_T hi ho) z)
  refine lv_iconst (v := 1) hC.1.1 hC.1.2.1 d_L_law_1536 (by decide) ?_
  refine va_forget (fun q hq => hAs _ (hI.2.2.2 q hq)) ?_
  refine W.widen hcs.1 hcs.2 ?_
  exact lw_ret hC.1.1 hC.1.2.1 hr hk d_L_law_1537
set_option maxHeartbeats 4000000 in
set_option maxRecDepth 100000 in
theorem law_loop (hL : L ≤ 3072) (hC : CxD p room_1 s m #[Value.ref b] meth c cells slots 4 code RL G A) (hX : XL G L xs s A) (hAs : ∀ q, A q → s.heap.size ≤ q) (hcs : cells ≤ 600000 ∧ slots ≤ 7302250) (hr : meth.sig.returnType = ret) (hk : meth.locks = false) : ∀ (n i : Nat) (H : Heap) (locs : List Loc) (ls : Array Slot) (μ : Mem), i < 10000 → L < i + 6 * n → HI s G A μ H locs → Inv μ → lv_has ls 4 [(0, .ref (G.2.1 87)), (1, .ref (G.2.1 0)), (2, .ref (G.2.1 49)), (3, .int (nI i))] → W p l e room_1 s m #[Value.ref b] below meth c H locs cells slots (lw_Z below #[Value.ref b] s) (F0 m 18 ls []) := by
  intro n
  induction n with
  | zero =>
    intro i H locs ls μ hi hn hI hV hl
    exact law_exit hC hX hAs hcs hr hk (i := i) (by omega) (by omega) hI hl
  | succ n ih =>
    intro i H locs ls μ hi hn hI hV hl
    rcases Nat.lt_or_ge L (i + 6) with q | q
    · exact law_exit hC hX hAs hcs hr hk (i := i) (by omega) q hI hl
    · obtain ⟨μ', hV', ht⟩ := law_once (l := l) (G := G) (xs := xs) hV q hL
      refine lv_iload_n hC.1.1 hC.1.2.1 d_L_law_18 rfl (lv_at hl 3 rfl) ?_
      refine lv_aload_n hC.1.1 hC.1.2.1 d_L_law_19 rfl (lv_at hl 0 rfl) ?_
      refine va_slen hC.1.1 hC.1.2.1 hX.1 hX.2.1 hX.2.2 hI.2 d_L_law_20 ?_
      refine lv_bipush (v := 6) hC.1.1 hC.1.2.1 d_L_law_21 (by decide) ?_
      refine lv_isub hC.1.1 hC.1.2.1 d_L_law_23 ?_
      refine lv_icmp_gt (tgt := 1536) hC.1.1 hC.1.2.1 d_L_law_24 (by decide) (fun z => absurd z (out_F (by omega) q)) (fun _ => ?_)
      refine ht p e s m _ below meth c cells slots A hC hX _ H locs ls ⟨rfl, hl⟩ hI (fun H1 locs1 ls1 hL1 hI1 => ?_)
      have hl1 : lv_has ls1 4 [(0, .ref (G.2.1 87)), (1, .ref (G.2.1 0)), (2, .ref (G.2.1 49)), (3, .int (nI i))] := hL1.2
      refine lv_iinc (v := nI (i + 6)) (lv' := [(3, .int (nI (i + 6))), (0, .ref (G.2.1 87)), (1, .ref (G.2.1 0)), (2, .ref (G.2.1 49))]) hC.1.1 hC.1.2.1 d_L_law_1530 hl1 (k := 3) rfl (nI_add i 6) (by decide) rfl (fun ls hl => ?_)
      refine lv_goto (tgt := 18) hC.1.1 hC.1.2.1 d_L_law_1533 (by decide) ?_
      exact ih (i + 6) H1 locs1 ls μ' (by omega) (by omega) hI1 hV' (lv_sub hl [1, 2, 3, 0] rfl)
end LOOP
