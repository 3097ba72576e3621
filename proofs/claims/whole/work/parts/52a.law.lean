/-! the law's own table: the script lies at cell 87 -/
def XL (G : Gm) (L : Nat) (xs : Nat → Int32) (s : State) (A : Nat → Prop) : Prop := va_X (G.2.1 87) L xs s s.heap ∧ G.2.1 87 < s.heap.size ∧ ¬ A (G.2.1 87)
def TXl (l : Launch) (G : Gm) (L : Nat) (xs : Nat → Int32) : Nat → LSt → List Value → Mem → Nat → LSt → List Value → Mem → Prop := fun pc ls st μ pc' ls' st' μ' =>
  ∀ (p : Program) (e : Env) (s : State) (m : MethodId) (args : Array Value) (below : List Frame) (meth : Method) (c : Code) (cells slots : Nat) (A : Nat → Prop), CxD p room_1 s m args meth c cells slots 4 code RL G A → XL G L xs s A →
  ∀ (Q : State → Prop) (H : Heap) (locs : List Loc) (lsA : Array Slot), HL 4 G lsA ls → HI s G A μ H locs →
  (∀ (H' : Heap) (locs' : List Loc) (lsA' : Array Slot), HL 4 G lsA' ls' → HI s G A μ' H' locs' → W p l e room_1 s m args below meth c H' locs' cells slots Q (F0 m pc' lsA' (st'.map (cv G)))) →
  W p l e room_1 s m args below meth c H locs cells slots Q (F0 m pc lsA (st.map (cv G)))
/-- from a case's begin to the loop's own step -/
def RXl (l : Launch) (G : Gm) (L : Nat) (xs : Nat → Int32) (x : Int32) : Nat → LSt → List Value → Mem → Option Value → Mem → Prop := fun pc ls st μ _ μ' => TXl l G L xs pc ls st μ 1530 [some (.ref 87), some (.ref 0), some (.ref 49), some (.int x)] [] μ'
theorem comp_l {l : Launch} {G : Gm} {L : Nat} {xs : Nat → Int32} {x : Int32} : ∀ pc ls st μ pc' ls' st' μ' r μ2, TXl l G L xs pc ls st μ pc' ls' st' μ' → RXl l G L xs x pc' ls' st' μ' r μ2 → RXl l G L xs x pc ls st μ r μ2 :=
  fun pc ls st μ pc' ls' st' μ' r μ2 h1 h2 p e s m args below meth c cells slots A hC hX Q H locs lsA hL hI kk => h1 p e s m args below meth c cells slots A hC hX Q H locs lsA hL hI (fun H' locs' lsA' hL' hI' => h2 p e s m args below meth c cells slots A hC hX Q H' locs' lsA' hL' hI' kk)
theorem lift_l {l : Launch} {G : Gm} {L : Nat} {xs : Nat → Int32} {RX : Nat → LSt → List Value → Mem → Option Value → Mem → Prop} {pc : Nat} {op : Op} (h : OkU (TXm l G room_1 4 code RL) RX pc op) : OkU (TXl l G L xs) RX pc op := by
  intro ls st μ
  rcases h ls st μ with ⟨pc', ls', st', μ', h1, h2⟩ | h1 | h1
  · exact Or.inl ⟨pc', ls', st', μ', h1, fun p e s m args below meth c cells slots A hC _ Q H locs lsA hL hI kk => h2 p e s m args below meth c cells slots A hC Q H locs lsA hL hI kk⟩
  · exact Or.inr (Or.inl h1)
  · exact Or.inr (Or.inr h1)
def oSLd (L : Nat) (xs : Nat → Int32) (nx : Nat) : Op := fun n _ ls st μ => match st with
  | .int j :: .ref i :: r => bif Nat.beq i 87 then (bif inB j L then n nx ls (.int (xs j.toNatClampNeg) :: r) μ else none) else none
  | _ => none
theorem ok_SLd {l : Launch} {G : Gm} {L : Nat} {xs : Nat → Int32} {RX : Nat → LSt → List Value → Mem → Option Value → Mem → Prop} {pc nx : Nat} (hd : decode code pc = .ok (.iaload, 1)) (hn : pc + 1 = nx) : OkU (TXl l G L xs) RX pc (oSLd L xs nx) := by
  intro ls st μ
  subst hn
  rcases st with _ | ⟨v, _ | ⟨w, r⟩⟩
  · exact Or.inr (Or.inr (fun _ _ => rfl))
  · cases v <;> exact Or.inr (Or.inr (fun _ _ => rfl))
  · cases v with
    | int j =>
      cases w with
      | ref i =>
        cases hb : Nat.beq i 87 with
        | false => exact Or.inr (Or.inr (fun n k => by simp only [oSLd, hb, cond_false]))
        | true =>
          have e : i = 87 := Nat.eq_of_beq_eq_true hb
          subst e
          cases hB : inB j L with
          | false => exact Or.inr (Or.inr (fun n k => by simp only [oSLd, hb, cond_true, hB, cond_false]))
          | true =>
            obtain ⟨h0, h1⟩ := inB_of hB
            exact Or.inl ⟨pc + 1, ls, .int (xs j.toNatClampNeg) :: r, μ, fun n k => by simp only [oSLd, hb, cond_true, hB], fun p e s m args below meth c0 cells slots A hC hX Q H locs lsA hL hI kk => va_sld hC.1.1 hC.1.2.1 hX.1 hX.2.1 hX.2.2 hI.2 (vp_of h0 h1) hd (kk H locs lsA hL hI)⟩
      | _ => exact Or.inr (Or.inr (fun _ _ => rfl))
    | _ => exact Or.inr (Or.inr (fun _ _ => rfl))
def lsEq (ls : LSt) (x : Int32) : Bool := decide (ls = [some (.ref 87), some (.ref 0), some (.ref 49), some (.int x)])
theorem lsEq_ok (x : Int32) : lsEq [some (.ref 87), some (.ref 0), some (.ref 49), some (.int x)] x = true := decide_eq_true rfl
def oStop (x : Int32) : Op := fun _ k ls st μ => match st with
  | [] => bif lsEq ls x then k none μ else none
  | _ => none
theorem ok_Stop {l : Launch} {G : Gm} {L : Nat} {xs : Nat → Int32} {x : Int32} : OkU (TXl l G L xs) (RXl l G L xs x) 1530 (oStop x) := by
  intro ls st μ
  rcases st with _ | ⟨v, r⟩
  · cases hb : lsEq ls x with
    | false => exact Or.inr (Or.inr (fun n k => by simp only [oStop, hb, cond_false]))
    | true =>
      have e := of_decide_eq_true hb
      subst e
      exact Or.inr (Or.inl ⟨none, μ, fun n k => by simp only [oStop, hb, cond_true], fun p e s m args below meth c cells slots A hC hX Q H locs lsA hL hI kk => kk H locs lsA hL hI⟩)
  · exact Or.inr (Or.inr (fun _ _ => rfl))
theorem lg_cmp_self (x : Int64) : lg_cmp x x = 0 := by
  unfold lg_cmp
  have h : ¬ x > x := by
    rw [gt_iff_lt, Int64.lt_iff_toInt_lt]
    exact Int.lt_irrefl _
  rw [if_neg h, if_pos rfl]
