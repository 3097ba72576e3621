/-! runs of the small machine -/
def runK (P : Nat → Op) : Nat → Rtn → Nxt
  | 0, _ => fun _ _ _ _ => none
  | n + 1, k => fun pc ls st μ => P pc (runK P n k) k ls st μ
/-- a step is one of three, whatever comes behind it -/
def OkU (TX : Nat → LSt → List Value → Mem → Nat → LSt → List Value → Mem → Prop) (RX : Nat → LSt → List Value → Mem → Option Value → Mem → Prop) (pc : Nat) (op : Op) : Prop :=
  ∀ (ls : LSt) (st : List Value) (μ : Mem), (∃ (pc' : Nat) (ls' : LSt) (st' : List Value) (μ' : Mem), (∀ (n : Nxt) (k : Rtn), op n k ls st μ = n pc' ls' st' μ') ∧ TX pc ls st μ pc' ls' st' μ') ∨ (∃ (r : Option Value) (μ' : Mem), (∀ (n : Nxt) (k : Rtn), op n k ls st μ = k r μ') ∧ RX pc ls st μ r μ') ∨ (∀ (n : Nxt) (k : Rtn), op n k ls st μ = none)
theorem run_fac {TX : Nat → LSt → List Value → Mem → Nat → LSt → List Value → Mem → Prop} {RX : Nat → LSt → List Value → Mem → Option Value → Mem → Prop} (hcomp : ∀ pc ls st μ pc' ls' st' μ' r μ2, TX pc ls st μ pc' ls' st' μ' → RX pc' ls' st' μ' r μ2 → RX pc ls st μ r μ2) {P : Nat → Op} (hP : ∀ pc, OkU TX RX pc (P pc)) :
    ∀ (n pc : Nat) (ls : LSt) (st : List Value) (μ : Mem), (∃ (r : Option Value) (μ' : Mem), (∀ k : Rtn, runK P n k pc ls st μ = k r μ') ∧ RX pc ls st μ r μ') ∨ (∀ k : Rtn, runK P n k pc ls st μ = none) := by
  intro n
  induction n with
  | zero => intro pc ls st μ; exact Or.inr (fun _ => rfl)
  | succ n ih =>
    intro pc ls st μ
    rcases hP pc ls st μ with ⟨pc', ls', st', μ', h1, h2⟩ | ⟨r, μ', h1, h2⟩ | h1
    · rcases ih pc' ls' st' μ' with ⟨r, μ2, g1, g2⟩ | g1
      · exact Or.inl ⟨r, μ2, fun k => (h1 _ k).trans (g1 k), hcomp _ _ _ _ _ _ _ _ _ _ h2 g2⟩
      · exact Or.inr (fun k => (h1 _ k).trans (g1 k))
    · exact Or.inl ⟨r, μ', fun k => h1 _ k, h2⟩
    · exact Or.inr (fun k => h1 _ k)
def someR : Rtn := fun r μ => some (r, μ)
theorem run_get {TX : Nat → LSt → List Value → Mem → Nat → LSt → List Value → Mem → Prop} {RX : Nat → LSt → List Value → Mem → Option Value → Mem → Prop} (hcomp : ∀ pc ls st μ pc' ls' st' μ' r μ2, TX pc ls st μ pc' ls' st' μ' → RX pc' ls' st' μ' r μ2 → RX pc ls st μ r μ2) {P : Nat → Op} (hP : ∀ pc, OkU TX RX pc (P pc)) {n pc : Nat} {ls : LSt} {st : List Value} {μ : Mem} {r : Option Value} {μ' : Mem} (h : runK P n someR pc ls st μ = someR r μ') : RX pc ls st μ r μ' := by
  rcases run_fac hcomp hP n pc ls st μ with ⟨r1, μ1, g1, g2⟩ | g1
  · rw [g1] at h
    cases h
    exact g2
  · rw [g1] at h
    cases h
/-- more steps than needed do no harm -/
theorem run_more {TX : Nat → LSt → List Value → Mem → Nat → LSt → List Value → Mem → Prop} {RX : Nat → LSt → List Value → Mem → Option Value → Mem → Prop} {P : Nat → Op} (hP : ∀ pc, OkU TX RX pc (P pc)) (j : Nat) :
    ∀ (n pc : Nat) (ls : LSt) (st : List Value) (μ : Mem) (r : Option Value) (μ' : Mem), (∀ k : Rtn, runK P n k pc ls st μ = k r μ') → ∀ k : Rtn, runK P (n + j) k pc ls st μ = k r μ' := by
  intro n
  induction n with
  | zero => intro pc ls st μ r μ' h; exact absurd (h someR) (by intro z; cases z)
  | succ n ih =>
    intro pc ls st μ r μ' h
    have e : n + 1 + j = n + j + 1 := by omega
    rw [e]
    rcases hP pc ls st μ with ⟨pc', ls', st', μ2, h1, -⟩ | ⟨r2, μ2, h1, -⟩ | h1
    · intro k
      refine (h1 _ k).trans (ih pc' ls' st' μ2 r μ' (fun k2 => ?_) k)
      have := h k2
      unfold runK at this
      rw [h1] at this
      exact this
    · intro k
      refine (h1 _ k).trans ?_
      have := h k
      unfold runK at this
      rw [h1] at this
      exact this
    · have := h someR
      unfold runK at this
      rw [h1] at this
      cases this
/-- whatever the fuel: this run comes to that answer -/
def Ev (P : Nat → Op) (pc : Nat) (ls : LSt) (st : List Value) (μ : Mem) (r : Option Value) (μ' : Mem) : Prop := ∃ n, ∀ k : Rtn, runK P n k pc ls st μ = k r μ'
theorem br {c : Prop} {h : Decidable c} {α : Type} {a b x : α} (h1 : c → a = x) (h2 : ¬ c → b = x) : @ite α c h a b = x := by
  by_cases q : c
  · rw [if_pos q]; exact h1 q
  · rw [if_neg q]; exact h2 q
theorem brT {c : Prop} {h : Decidable c} {α : Type} {a b x : α} (q : c) (h1 : a = x) : @ite α c h a b = x := by
  rw [if_pos q]; exact h1
theorem brF {c : Prop} {h : Decidable c} {α : Type} {a b x : α} (q : ¬ c) (h1 : b = x) : @ite α c h a b = x := by
  rw [if_neg q]; exact h1
theorem bfT {c : Bool} {α : Type} {a b x : α} (q : c = true) (h1 : a = x) : (bif c then a else b) = x := by
  rw [q]; exact h1
theorem bfF {c : Bool} {α : Type} {a b x : α} (q : c = false) (h1 : b = x) : (bif c then a else b) = x := by
  rw [q]; exact h1
theorem c00 : (0 : Int32) = 0 := rfl
theorem c10 : ¬ (1 : Int32) = 0 := by decide
/-- a row is laid out before one goes on -/
def fL {α : Type} : List α → (List α → Option Rz) → Option Rz
  | [], f => f []
  | x :: xs, f => fL xs (fun ys => f (x :: ys))
theorem fL_eq {α : Type} (l : List α) (f : List α → Option Rz) : fL l f = f l := by
  induction l generalizing f with
  | nil => rfl
  | cons x xs ih => exact ih _
/-! the steps -/
def oFail : Op := fun _ _ _ _ _ => none
def oILd (i nx : Nat) : Op := fun n _ ls st μ => match lsAt ls i with
  | some (.int x) => n nx ls (.int x :: st) μ
  | _ => none
def oALd (i nx : Nat) : Op := fun n _ ls st μ => match lsAt ls i with
  | some (.ref x) => n nx ls (.ref x :: st) μ
  | _ => none
def oLLd (i nx : Nat) : Op := fun n _ ls st μ => match lsAt ls i with
  | some (.long x) => n nx ls (.long x :: st) μ
  | _ => none
def oISt (i nx : Nat) : Op := fun n _ ls st μ => match st with
  | .int x :: r => bif Nat.blt i ls.length then fL (stL ls i (.int x)) (fun l => n nx l r μ) else none
  | _ => none
def oASt (i nx : Nat) : Op := fun n _ ls st μ => match st with
  | .ref x :: r => bif Nat.blt i ls.length then fL (stL ls i (.ref x)) (fun l => n nx l r μ) else none
  | _ => none
def oLSt (i nx : Nat) : Op := fun n _ ls st μ => match st with
  | .long x :: r => bif Nat.blt (i + 1) ls.length then fL (stL2 ls i (.long x)) (fun l => n nx l r μ) else none
  | _ => none
def oInc (i : Nat) (d : Int32) (nx : Nat) : Op := fun n _ ls st μ => match lsAt ls i with
  | some (.int x) => fL (stL ls i (.int (x + d))) (fun l => n nx l st μ)
  | _ => none
def oCst (v : Int32) (nx : Nat) : Op := fun n _ ls st μ => n nx ls (.int v :: st) μ
def oLCst (v : Int64) (nx : Nat) : Op := fun n _ ls st μ => n nx ls (.long v :: st) μ
def oUn (f : Int32 → Int32) (nx : Nat) : Op := fun n _ ls st μ => match st with
  | .int x :: r => n nx ls (.int (f x) :: r) μ
  | _ => none
def oBin (f : Int32 → Int32 → Int32) (nx : Nat) : Op := fun n _ ls st μ => match st with
  | .int y :: .int x :: r => n nx ls (.int (f x y) :: r) μ
  | _ => none
def oDiv (f : Int32 → Int32 → Int32) (nx : Nat) : Op := fun n _ ls st μ => match st with
  | .int y :: .int x :: r => bif decide (y = 0) then none else n nx ls (.int (f x y) :: r) μ
  | _ => none
def oI2L (nx : Nat) : Op := fun n _ ls st μ => match st with
  | .int x :: r => n nx ls (.long x.toInt64 :: r) μ
  | _ => none
def oLBin (f : Int64 → Int64 → Int64) (nx : Nat) : Op := fun n _ ls st μ => match st with
  | .long y :: .long x :: r => n nx ls (.long (f x y) :: r) μ
  | _ => none
def oLCmp (nx : Nat) : Op := fun n _ ls st μ => match st with
  | .long y :: .long x :: r => n nx ls (.int (lg_cmp x y) :: r) μ
  | _ => none
/-- x = 0: t, else f -/
def oIfEq (t f : Nat) : Op := fun n _ ls st μ => match st with
  | .int x :: r => if x = 0 then n t ls r μ else n f ls r μ
  | _ => none
/-- x < 0: t, else f -/
def oIfLt (t f : Nat) : Op := fun n _ ls st μ => match st with
  | .int x :: r => if x < 0 then n t ls r μ else n f ls r μ
  | _ => none
/-- 0 < x: t, else f -/
def oIfGt (t f : Nat) : Op := fun n _ ls st μ => match st with
  | .int x :: r => if 0 < x then n t ls r μ else n f ls r μ
  | _ => none
def oCpEq (t f : Nat) : Op := fun n _ ls st μ => match st with
  | .int y :: .int x :: r => if x = y then n t ls r μ else n f ls r μ
  | _ => none
def oCpLt (t f : Nat) : Op := fun n _ ls st μ => match st with
  | .int y :: .int x :: r => if x < y then n t ls r μ else n f ls r μ
  | _ => none
def oCpGt (t f : Nat) : Op := fun n _ ls st μ => match st with
  | .int y :: .int x :: r => if y < x then n t ls r μ else n f ls r μ
  | _ => none
def oGo (t : Nat) : Op := fun n _ ls st μ => n t ls st μ
def selK (x : Int32) (d : Nat) (k : Nat → Option Rz) : List (Int32 × Nat) → Option Rz
  | [] => k d
  | (c, t) :: r => if x = c then k t else selK x d k r
def selT (x : Int32) (d : Nat) : List (Int32 × Nat) → Nat
  | [] => d
  | (c, t) :: r => if x = c then t else selT x d r
theorem selK_eq (x : Int32) (d : Nat) (k : Nat → Option Rz) (cs : List (Int32 × Nat)) : selK x d k cs = k (selT x d cs) := by
  induction cs with
  | nil => rfl
  | cons a r ih =>
    obtain ⟨c, t⟩ := a
    unfold selK selT
    by_cases h : x = c
    · rw [if_pos h, if_pos h]
    · rw [if_neg h, if_neg h]; exact ih
def oSw (cs : List (Int32 × Nat)) (d : Nat) : Op := fun n _ ls st μ => match st with
  | .int x :: r => selK x d (fun t => n t ls r μ) cs
  | _ => none
def oGetI (c f nx : Nat) : Op := fun n _ ls st μ => match st with
  | .ref i :: r => bif Nat.beq (kd i) c then n nx ls (.int (μ i f) :: r) μ else none
  | _ => none
def oGetR (c f nx : Nat) : Op := fun n _ ls st μ => match st with
  | .ref i :: r => bif Nat.beq (kd i) c then n nx ls (.ref (rfOf i f) :: r) μ else none
  | _ => none
def oPutI (c f nx : Nat) : Op := fun n _ ls st μ => match st with
  | .int v :: .ref i :: r => bif Nat.beq (kd i) c then n nx ls r (up2 μ i f v) else none
  | _ => none
def oPutZ (c f nx : Nat) : Op := fun n _ ls st μ => match st with
  | .int v :: .ref i :: r => bif Nat.beq (kd i) c then (bif decide (v = 0) then n nx ls r (up2 μ i f 0) else bif decide (v = 1) then n nx ls r (up2 μ i f 1) else none) else none
  | _ => none
def inB (j : Int32) (n : Nat) : Bool := !(decide (j < 0)) && Nat.blt j.toNatClampNeg n
def oIAL (nx : Nat) : Op := fun n _ ls st μ => match st with
  | .int j :: .ref i :: r => bif Nat.beq (kd i) 6 then (bif inB j (lenOf i) then n nx ls (.int (μ i j.toNatClampNeg) :: r) μ else none) else none
  | _ => none
def oIAS (nx : Nat) : Op := fun n _ ls st μ => match st with
  | .int v :: .int j :: .ref i :: r => bif Nat.beq (kd i) 6 then (bif inB j (lenOf i) then n nx ls r (up2 μ i j.toNatClampNeg v) else none) else none
  | _ => none
def oAAL (c nx : Nat) : Op := fun n _ ls st μ => match st with
  | .int j :: .ref i :: r => bif Nat.beq (kd i) c then (bif inB j (lenOf i) then n nx ls (.ref (rfOf i j.toNatClampNeg) :: r) μ else none) else none
  | _ => none
def oLenR (c : Nat) (nx : Nat) : Op := fun n _ ls st μ => match st with
  | .ref i :: r => bif Nat.beq (kd i) c then n nx ls (.int (Int32.ofNat (lenOf i)) :: r) μ else none
  | _ => none
def oDup (nx : Nat) : Op := fun n _ ls st μ => match st with
  | v :: r => bif Nat.beq v.category 1 then n nx ls (v :: v :: r) μ else none
  | _ => none
def oDup2 (nx : Nat) : Op := fun n _ ls st μ => match st with
  | v :: w :: r => bif Nat.beq v.category 1 && Nat.beq w.category 1 then n nx ls (v :: w :: v :: w :: r) μ else none
  | _ => none
def oPop (nx : Nat) : Op := fun n _ ls st μ => match st with
  | v :: r => bif Nat.beq v.category 1 then n nx ls r μ else none
  | _ => none
def oIRet : Op := fun _ k _ st μ => match st with
  | [.int v] => k (some (.int v)) μ
  | _ => none
def oZRet : Op := fun _ k _ st μ => match st with
  | [.int v] => bif decide (v = 0) then k (some (.int 0)) μ else bif decide (v = 1) then k (some (.int 1)) μ else none
  | _ => none
def oLRet : Op := fun _ k _ st μ => match st with
  | [.long v] => k (some (.long v)) μ
  | _ => none
def oVRet : Op := fun _ k _ st μ => match st with
  | [] => k none μ
  | _ => none
def rsum (r : List Value) : Nat := (r.map fun v => v.category).sum
def oMin (nx : Nat) : Op := fun n _ ls st μ => match st with
  | .int y :: .int x :: r => bif Nat.ble (rsum r) 8 then n nx ls (.int (if y < x then y else x) :: r) μ else none
  | _ => none
def oMax (nx : Nat) : Op := fun n _ ls st μ => match st with
  | .int y :: .int x :: r => bif Nat.ble (rsum r) 8 then n nx ls (.int (if x < y then y else x) :: r) μ else none
  | _ => none
/-- a call on an object: the kind of it is looked at first -/
def oCaV (a c : Nat) (S : Sem) (nx : Nat) : Op := fun n _ ls st μ => match (st.take a).reverse with
  | .ref i :: as => bif Nat.beq (kd i) c then (bif Nat.ble (rsum (st.drop a)) 8 && Nat.beq (as.length + 1) a then fL as (fun as' => fL (st.drop a) (fun rest => S (.ref i :: as') μ (fun r μ' => match r with | some v => n nx ls (v :: rest) μ' | none => n nx ls rest μ'))) else none) else none
  | _ => none
def oCaS (a : Nat) (S : Sem) (nx : Nat) : Op := fun n _ ls st μ => bif Nat.ble (rsum (st.drop a)) 8 && Nat.beq (st.take a).length a then fL (st.take a).reverse (fun as => fL (st.drop a) (fun rest => S as μ (fun r μ' => match r with | some v => n nx ls (v :: rest) μ' | none => n nx ls rest μ'))) else none
def oCpy (nx : Nat) : Op := fun n _ ls st μ => match st with
  | .int c :: .int dp :: .ref j :: .int sp :: .ref i :: r => bif Nat.beq (kd i) 6 && (Nat.beq (kd j) 6 && Nat.ble (rsum r) 8) then (bif decide (sp < 0) then none else bif decide (dp < 0) then none else bif decide (c < 0) then none else bif Nat.blt (lenOf i) (sp.toNatClampNeg + c.toNatClampNeg) then none else bif Nat.blt (lenOf j) (dp.toNatClampNeg + c.toNatClampNeg) then none else n nx ls r (up1 μ j (va_cpy (μ i) (μ j) sp.toNatClampNeg dp.toNatClampNeg c.toNatClampNeg))) else none
  | _ => none
/-! texts -/
def lenS : List Nat := [9, 4, 6, 6, 6, 5, 4, 7, 6, 6, 5, 6, 6]
def bytS : List (List Int32) := [[100, 105, 115, 112, 117, 116, 97, 110, 116], [97, 117, 110, 116], [108, 97, 119, 121, 101, 114], [112, 97, 114, 115, 111, 110], [98, 105, 115, 104, 111, 112], [99, 104, 105, 108, 100], [116, 119, 105, 110], [100, 105, 115, 112, 117, 116, 101], [104, 101, 105, 103, 104, 116], [115, 112, 114, 101, 97, 100], [99, 97, 117, 115, 101], [116, 101, 109, 112, 101, 114], [115, 105, 108, 101, 110, 116]]
def oLdS (i nx : Nat) : Op := fun n _ ls st μ => n nx ls (.ref (61 + i) :: st) μ
def oStrV (nx : Nat) : Op := fun n _ ls st μ => match st with
  | .ref i :: r => bif Nat.beq (kd i) 11 then n nx ls (.ref (i + 13) :: r) μ else none
  | _ => none
def oStrC (nx : Nat) : Op := fun n _ ls st μ => match st with
  | .ref i :: r => bif Nat.beq (kd i) 11 then n nx ls (.int 0 :: r) μ else none
  | _ => none
def oBLen (nx : Nat) : Op := fun n _ ls st μ => match st with
  | .ref i :: r => bif Nat.beq (kd i) 12 then n nx ls (.int (Int32.ofNat (lenS.getD (i - 74) 0)) :: r) μ else none
  | _ => none
def oBAL (nx : Nat) : Op := fun n _ ls st μ => match st with
  | .int j :: .ref i :: r => bif Nat.beq (kd i) 12 then (bif inB j (lenS.getD (i - 74) 0) then n nx ls (.int ((bytS.getD (i - 74) []).getD j.toNatClampNeg 0) :: r) μ else none) else none
  | _ => none
def oGsC (nx : Nat) : Op := fun n _ ls st μ => n nx ls (.int 1 :: st) μ
def oGsF (nx : Nat) : Op := fun n _ ls st μ => n nx ls (.retAddr 0 :: st) μ
/-- an answer of another small type -/
def oBRet : Op := fun _ k _ st μ => match st with
  | [.int v] => bif decide (v = 0) then k (some (.int 0)) μ else none
  | _ => none
def oCRet : Op := fun _ k _ st μ => match st with
  | [.int v] => bif decide ((v.toUInt32 % 65536).toInt32 = v) then k (some (.int v)) μ else none
  | _ => none
theorem bif_and {α : Type} {a b : Bool} {x y : α} : (bif a then (bif b then x else y) else y) = (bif (a && b) then x else y) := by cases a <;> rfl
/-! names that are not looked into unasked: heads of loops, callees with a lemma of their own -/
theorem lkO : ∃ f : Op → Op, ∀ o, f o = o := ⟨fun o => o, fun _ => rfl⟩
theorem lkS : ∃ f : Sem → Sem, ∀ o, f o = o := ⟨fun o => o, fun _ => rfl⟩
noncomputable def lockO (o : Op) (_ : Nat) : Op := Classical.choose lkO o
noncomputable def lockS (o : Sem) (_ : Nat) : Sem := Classical.choose lkS o
theorem lockO_eq (o : Op) : lockO o 0 = o := Classical.choose_spec lkO o
theorem lockS_eq (o : Sem) : lockS o 0 = o := Classical.choose_spec lkS o
theorem fu {a b : Nat} (h : a ≤ 1000) (hb : Nat.ble 1000 b = true) : a ≤ b := Nat.le_trans h (Nat.le_of_ble_eq_true hb)
/-- a program: its steps by the places of its bytes -/
def nd (b pc : Nat) (L R : Op) : Op := bif Nat.ble b pc then R else L
def lf (b pc : Nat) (o : Op) : Op := bif Nat.beq pc b then o else oFail
section OKU
variable {TX : Nat → LSt → List Value → Mem → Nat → LSt → List Value → Mem → Prop} {RX : Nat → LSt → List Value → Mem → Option Value → Mem → Prop} {pc : Nat}
theorem ok_fail : OkU TX RX pc oFail := fun _ _ _ => Or.inr (Or.inr (fun _ _ => rfl))
theorem ok_nd {b : Nat} {L R : Op} (hL : OkU TX RX pc L) (hR : OkU TX RX pc R) : OkU TX RX pc (nd b pc L R) := by
  unfold nd
  cases Nat.ble b pc
  · exact hL
  · exact hR
theorem ok_lk {o : Op} (h : OkU TX RX pc o) : OkU TX RX pc (lockO o 0) := by rw [lockO_eq]; exact h
theorem ok_lf {b : Nat} {o : Op} (h : OkU TX RX b o) : OkU TX RX pc (lf b pc o) := by
  unfold lf
  cases hb : Nat.beq pc b with
  | false => exact ok_fail
  | true => rw [Nat.eq_of_beq_eq_true hb]; exact h
end OKU
