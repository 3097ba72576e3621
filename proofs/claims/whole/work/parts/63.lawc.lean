set_option maxRecDepth 100000 in
theorem lc_set {L : Nat} {xs : Nat → Int32} {x : Int32} {μ : Mem} {k : Rtn} {X : Option Rz} (hI : Inv μ) (h1 : inB (x + 1) L = true) (h2 : inB (x + 2) L = true) (h3 : inB (x + 3) L = true) (h4 : inB (x + 4) L = true) (h5 : inB (x + 5) L = true) (hk : ∀ μ2, Inv μ2 → k none μ2 = X) : runK (P_law L xs x) 94 k 220 [some (.ref 87), some (.ref 0), some (.ref 49), some (.int x)] [] μ = X := by
  refine bfT h1 ?_
  refine bfT h2 ?_
  refine T_set (K := ?K) hI ?hm ?hK
  case hm =>
    intro v μ1
    refine bfT h1 ?_
    refine bfT h2 ?_
    exact rfl
  case hK =>
    intro v w μ2 e hI2
    refine brT e ?_
    refine bfT (lsEq_ok x) ?_
    exact hk _ hI2
set_option maxRecDepth 100000 in
theorem lc_court {L : Nat} {xs : Nat → Int32} {x : Int32} {μ : Mem} {k : Rtn} {X : Option Rz} (hI : Inv μ) (h1 : inB (x + 1) L = true) (h2 : inB (x + 2) L = true) (h3 : inB (x + 3) L = true) (h4 : inB (x + 4) L = true) (h5 : inB (x + 5) L = true) (hk : ∀ μ2, Inv μ2 → k none μ2 = X) : runK (P_law L xs x) 94 k 253 [some (.ref 87), some (.ref 0), some (.ref 49), some (.int x)] [] μ = X := by
  refine bfT h1 ?_
  refine T_court (K := ?K) hI ?hm ?hK
  case hm =>
    intro v μ1
    refine bfT h1 ?_
    exact rfl
  case hK =>
    intro v w μ2 e hI2
    refine brT e ?_
    refine bfT (lsEq_ok x) ?_
    exact hk _ hI2
set_option maxRecDepth 100000 in
theorem lc_dispute {L : Nat} {xs : Nat → Int32} {x : Int32} {μ : Mem} {k : Rtn} {X : Option Rz} (hI : Inv μ) (h1 : inB (x + 1) L = true) (h2 : inB (x + 2) L = true) (h3 : inB (x + 3) L = true) (h4 : inB (x + 4) L = true) (h5 : inB (x + 5) L = true) (hk : ∀ μ2, Inv μ2 → k none μ2 = X) : runK (P_law L xs x) 94 k 276 [some (.ref 87), some (.ref 0), some (.ref 49), some (.int x)] [] μ = X := by
  refine bfT h1 ?_
  refine bfT h2 ?_
  refine bfT h3 ?_
  refine T_dispute (K := ?K) hI ?hm ?hK
  case hm =>
    intro v μ1
    refine bfT h1 ?_
    refine bfT h2 ?_
    refine bfT h3 ?_
    exact rfl
  case hK =>
    intro v w μ2 e hI2
    refine brT e ?_
    refine bfT (lsEq_ok x) ?_
    exact hk _ hI2
set_option maxRecDepth 100000 in
theorem lc_listed {L : Nat} {xs : Nat → Int32} {x : Int32} {μ : Mem} {k : Rtn} {X : Option Rz} (hI : Inv μ) (h1 : inB (x + 1) L = true) (h2 : inB (x + 2) L = true) (h3 : inB (x + 3) L = true) (h4 : inB (x + 4) L = true) (h5 : inB (x + 5) L = true) (hk : ∀ μ2, Inv μ2 → k none μ2 = X) : runK (P_law L xs x) 94 k 319 [some (.ref 87), some (.ref 0), some (.ref 49), some (.int x)] [] μ = X := by
  refine bfT h1 ?_
  refine T_listed (K := ?K) hI ?hm ?hK
  case hm =>
    intro v μ1
    refine bfT h1 ?_
    exact rfl
  case hK =>
    intro v w μ2 e hI2
    refine brT e ?_
    refine bfT (lsEq_ok x) ?_
    exact hk _ hI2
set_option maxRecDepth 100000 in
theorem lc_disputant {L : Nat} {xs : Nat → Int32} {x : Int32} {μ : Mem} {k : Rtn} {X : Option Rz} (hI : Inv μ) (h1 : inB (x + 1) L = true) (h2 : inB (x + 2) L = true) (h3 : inB (x + 3) L = true) (h4 : inB (x + 4) L = true) (h5 : inB (x + 5) L = true) (hk : ∀ μ2, Inv μ2 → k none μ2 = X) : runK (P_law L xs x) 94 k 342 [some (.ref 87), some (.ref 0), some (.ref 49), some (.int x)] [] μ = X := by
  refine bfT h1 ?_
  refine bfT h2 ?_
  refine T_disputant (K := ?K) hI ?hm ?hK
  case hm =>
    intro v μ1
    refine bfT h1 ?_
    refine bfT h2 ?_
    exact rfl
  case hK =>
    intro v w μ2 e hI2
    refine brT e ?_
    refine bfT (lsEq_ok x) ?_
    exact hk _ hI2
set_option maxRecDepth 100000 in
theorem lc_of {L : Nat} {xs : Nat → Int32} {x : Int32} {μ : Mem} {k : Rtn} {X : Option Rz} (hI : Inv μ) (h1 : inB (x + 1) L = true) (h2 : inB (x + 2) L = true) (h3 : inB (x + 3) L = true) (h4 : inB (x + 4) L = true) (h5 : inB (x + 5) L = true) (hk : ∀ μ2, Inv μ2 → k none μ2 = X) : runK (P_law L xs x) 94 k 375 [some (.ref 87), some (.ref 0), some (.ref 49), some (.int x)] [] μ = X := by
  refine bfT h1 ?_
  refine bfT h2 ?_
  refine T_of (K := ?K) hI ?hm ?hK
  case hm =>
    intro v μ1
    refine bfT h1 ?_
    refine bfT h2 ?_
    exact rfl
  case hK =>
    intro v w μ2 e hI2
    refine brT e ?_
    refine bfT (lsEq_ok x) ?_
    exact hk _ hI2
set_option maxRecDepth 100000 in
theorem lc_change {L : Nat} {xs : Nat → Int32} {x : Int32} {μ : Mem} {k : Rtn} {X : Option Rz} (hI : Inv μ) (h1 : inB (x + 1) L = true) (h2 : inB (x + 2) L = true) (h3 : inB (x + 3) L = true) (h4 : inB (x + 4) L = true) (h5 : inB (x + 5) L = true) (hk : ∀ μ2, Inv μ2 → k none μ2 = X) : runK (P_law L xs x) 94 k 408 [some (.ref 87), some (.ref 0), some (.ref 49), some (.int x)] [] μ = X := by
  refine bfT h1 ?_
  refine bfT h2 ?_
  refine bfT h3 ?_
  refine T_change (K := ?K) hI ?hm ?hK
  case hm =>
    intro v μ1
    refine bfT h1 ?_
    refine bfT h2 ?_
    refine bfT h3 ?_
    exact rfl
  case hK =>
    intro v w μ2 e hI2
    refine brT e ?_
    refine bfT (lsEq_ok x) ?_
    exact hk _ hI2
set_option maxRecDepth 100000 in
theorem lc_turning {L : Nat} {xs : Nat → Int32} {x : Int32} {μ : Mem} {k : Rtn} {X : Option Rz} (hI : Inv μ) (h1 : inB (x + 1) L = true) (h2 : inB (x + 2) L = true) (h3 : inB (x + 3) L = true) (h4 : inB (x + 4) L = true) (h5 : inB (x + 5) L = true) (hk : ∀ μ2, Inv μ2 → k none μ2 = X) : runK (P_law L xs x) 94 k 451 [some (.ref 87), some (.ref 0), some (.ref 49), some (.int x)] [] μ = X := by
  refine bfT h1 ?_
  refine bfT h2 ?_
  refine T_turning (K := ?K) hI ?hm ?hK
  case hm =>
    intro v μ1
    refine bfT h1 ?_
    refine bfT h2 ?_
    exact rfl
  case hK =>
    intro v w μ2 e hI2
    refine brT e ?_
    refine bfT (lsEq_ok x) ?_
    exact hk _ hI2
set_option maxRecDepth 100000 in
theorem lc_falls {L : Nat} {xs : Nat → Int32} {x : Int32} {μ : Mem} {k : Rtn} {X : Option Rz} (hI : Inv μ) (h1 : inB (x + 1) L = true) (h2 : inB (x + 2) L = true) (h3 : inB (x + 3) L = true) (h4 : inB (x + 4) L = true) (h5 : inB (x + 5) L = true) (hk : ∀ μ2, Inv μ2 → k none μ2 = X) : runK (P_law L xs x) 94 k 484 [some (.ref 87), some (.ref 0), some (.ref 49), some (.int x)] [] μ = X := by
  refine bfT h1 ?_
  refine bfT h2 ?_
  refine T_falls (K := ?K) hI ?hm ?hK
  case hm =>
    intro v μ1
    refine bfT h1 ?_
    refine bfT h2 ?_
    exact rfl
  case hK =>
    intro v w μ2 e hI2
    refine brT e ?_
    refine bfT (lsEq_ok x) ?_
    exact hk _ hI2
set_option maxRecDepth 100000 in
theorem lc_go {L : Nat} {xs : Nat → Int32} {x : Int32} {μ : Mem} {k : Rtn} {X : Option Rz} (hI : Inv μ) (h1 : inB (x + 1) L = true) (h2 : inB (x + 2) L = true) (h3 : inB (x + 3) L = true) (h4 : inB (x + 4) L = true) (h5 : inB (x + 5) L = true) (hk : ∀ μ2, Inv μ2 → k none μ2 = X) : runK (P_law L xs x) 94 k 517 [some (.ref 87), some (.ref 0), some (.ref 49), some (.int x)] [] μ = X := by
  refine bfT h1 ?_
  refine T_go (K := ?K) hI ?hm ?hK
  case hm =>
    intro v μ1
    refine bfT h1 ?_
    exact rfl
  case hK =>
    intro v w μ2 e hI2
    refine brT e ?_
    refine bfT (lsEq_ok x) ?_
    exact hk _ hI2
set_option maxRecDepth 100000 in
theorem lc_now {L : Nat} {xs : Nat → Int32} {x : Int32} {μ : Mem} {k : Rtn} {X : Option Rz} (hI : Inv μ) (h1 : inB (x + 1) L = true) (h2 : inB (x + 2) L = true) (h3 : inB (x + 3) L = true) (h4 : inB (x + 4) L = true) (h5 : inB (x + 5) L = true) (hk : ∀ μ2, Inv μ2 → k none μ2 = X) : runK (P_law L xs x) 94 k 540 [some (.ref 87), some (.ref 0), some (.ref 49), some (.int x)] [] μ = X := by
  refine bfT h1 ?_
  refine T_now (K := ?K) hI ?hm ?hK
  case hm =>
    intro v μ1
    refine bfT h1 ?_
    exact rfl
  case hK =>
    intro v w μ2 e hI2
    refine brT e ?_
    refine bfT (lsEq_ok x) ?_
    exact hk _ hI2
set_option maxRecDepth 100000 in
theorem lc_ahead {L : Nat} {xs : Nat → Int32} {x : Int32} {μ : Mem} {k : Rtn} {X : Option Rz} (hI : Inv μ) (h1 : inB (x + 1) L = true) (h2 : inB (x + 2) L = true) (h3 : inB (x + 3) L = true) (h4 : inB (x + 4) L = true) (h5 : inB (x + 5) L = true) (hk : ∀ μ2, Inv μ2 → k none μ2 = X) : runK (P_law L xs x) 94 k 563 [some (.ref 87), some (.ref 0), some (.ref 49), some (.int x)] [] μ = X := by
  refine bfT h1 ?_
  refine bfT h2 ?_
  refine bfT h3 ?_
  refine T_ahead (K := ?K) hI ?hm ?hK
  case hm =>
    intro v μ1
    refine bfT h1 ?_
    refine bfT h2 ?_
    refine bfT h3 ?_
    exact rfl
  case hK =>
    intro v w μ2 e hI2
    refine brT e ?_
    refine bfT (lsEq_ok x) ?_
    exact hk _ hI2
set_option maxRecDepth 100000 in
theorem lc_wrong {L : Nat} {xs : Nat → Int32} {x : Int32} {μ : Mem} {k : Rtn} {X : Option Rz} (hI : Inv μ) (h1 : inB (x + 1) L = true) (h2 : inB (x + 2) L = true) (h3 : inB (x + 3) L = true) (h4 : inB (x + 4) L = true) (h5 : inB (x + 5) L = true) (hk : ∀ μ2, Inv μ2 → k none μ2 = X) : runK (P_law L xs x) 94 k 606 [some (.ref 87), some (.ref 0), some (.ref 49), some (.int x)] [] μ = X := by
  refine bfT h1 ?_
  refine bfT h2 ?_
  refine T_wrong (K := ?K) hI ?hm ?hK
  case hm =>
    intro v μ1
    refine bfT h1 ?_
    refine bfT h2 ?_
    exact rfl
  case hK =>
    intro v w μ2 e hI2
    refine brT e ?_
    refine bfT (lsEq_ok x) ?_
    exact hk _ hI2
set_option maxRecDepth 100000 in
theorem lc_right {L : Nat} {xs : Nat → Int32} {x : Int32} {μ : Mem} {k : Rtn} {X : Option Rz} (hI : Inv μ) (h1 : inB (x + 1) L = true) (h2 : inB (x + 2) L = true) (h3 : inB (x + 3) L = true) (h4 : inB (x + 4) L = true) (h5 : inB (x + 5) L = true) (hk : ∀ μ2, Inv μ2 → k none μ2 = X) : runK (P_law L xs x) 94 k 639 [some (.ref 87), some (.ref 0), some (.ref 49), some (.int x)] [] μ = X := by
  refine bfT h1 ?_
  refine bfT h2 ?_
  refine T_right (K := ?K) hI ?hm ?hK
  case hm =>
    intro v μ1
    refine bfT h1 ?_
    refine bfT h2 ?_
    exact rfl
  case hK =>
    intro v w μ2 e hI2
    refine brT e ?_
    refine bfT (lsEq_ok x) ?_
    exact hk _ hI2
set_option maxRecDepth 100000 in
theorem lc_stands {L : Nat} {xs : Nat → Int32} {x : Int32} {μ : Mem} {k : Rtn} {X : Option Rz} (hI : Inv μ) (h1 : inB (x + 1) L = true) (h2 : inB (x + 2) L = true) (h3 : inB (x + 3) L = true) (h4 : inB (x + 4) L = true) (h5 : inB (x + 5) L = true) (hk : ∀ μ2, Inv μ2 → k none μ2 = X) : runK (P_law L xs x) 94 k 672 [some (.ref 87), some (.ref 0), some (.ref 49), some (.int x)] [] μ = X := by
  refine T_stands (K := ?K) hI ?hm ?hK
  case hm =>
    intro v μ1
    exact rfl
  case hK =>
    intro v w μ2 e hI2
    refine brT e ?_
    refine bfT (lsEq_ok x) ?_
    exact hk _ hI2
set_option maxRecDepth 100000 in
theorem lc_calm {L : Nat} {xs : Nat → Int32} {x : Int32} {μ : Mem} {k : Rtn} {X : Option Rz} (hI : Inv μ) (h1 : inB (x + 1) L = true) (h2 : inB (x + 2) L = true) (h3 : inB (x + 3) L = true) (h4 : inB (x + 4) L = true) (h5 : inB (x + 5) L = true) (hk : ∀ μ2, Inv μ2 → k none μ2 = X) : runK (P_law L xs x) 94 k 685 [some (.ref 87), some (.ref 0), some (.ref 49), some (.int x)] [] μ = X := by
  refine bfT h1 ?_
  refine bfT h2 ?_
  refine T_calm (K := ?K) hI ?hm ?hK
  case hm =>
    intro v μ1
    refine bfT h1 ?_
    refine bfT h2 ?_
    exact rfl
  case hK =>
    intro v w μ2 e hI2
    refine brT e ?_
    refine bfT (lsEq_ok x) ?_
    exact hk _ hI2
set_option maxRecDepth 100000 in
theorem lc_heightFor {L : Nat} {xs : Nat → Int32} {x : Int32} {μ : Mem} {k : Rtn} {X : Option Rz} (hI : Inv μ) (h1 : inB (x + 1) L = true) (h2 : inB (x + 2) L = true) (h3 : inB (x + 3) L = true) (h4 : inB (x + 4) L = true) (h5 : inB (x + 5) L = true) (hk : ∀ μ2, Inv μ2 → k none μ2 = X) : runK (P_law L xs x) 94 k 718 [some (.ref 87), some (.ref 0), some (.ref 49), some (.int x)] [] μ = X := by
  refine bfT h1 ?_
  refine bfT h2 ?_
  refine T_heightFor (K := ?K) hI ?hm ?hK
  case hm =>
    intro v μ1
    refine bfT h1 ?_
    refine bfT h2 ?_
    exact rfl
  case hK =>
    intro v w μ2 e hI2
    refine brT e ?_
    refine bfT (lsEq_ok x) ?_
    exact hk _ hI2
set_option maxRecDepth 100000 in
theorem lc_spreadFor {L : Nat} {xs : Nat → Int32} {x : Int32} {μ : Mem} {k : Rtn} {X : Option Rz} (hI : Inv μ) (h1 : inB (x + 1) L = true) (h2 : inB (x + 2) L = true) (h3 : inB (x + 3) L = true) (h4 : inB (x + 4) L = true) (h5 : inB (x + 5) L = true) (hk : ∀ μ2, Inv μ2 → k none μ2 = X) : runK (P_law L xs x) 94 k 751 [some (.ref 87), some (.ref 0), some (.ref 49), some (.int x)] [] μ = X := by
  refine bfT h1 ?_
  refine bfT h2 ?_
  refine T_spreadFor (K := ?K) hI ?hm ?hK
  case hm =>
    intro v μ1
    refine bfT h1 ?_
    refine bfT h2 ?_
    exact rfl
  case hK =>
    intro v w μ2 e hI2
    refine brT e ?_
    refine bfT (lsEq_ok x) ?_
    exact hk _ hI2
set_option maxRecDepth 100000 in
theorem lc_kindFor {L : Nat} {xs : Nat → Int32} {x : Int32} {μ : Mem} {k : Rtn} {X : Option Rz} (hI : Inv μ) (h1 : inB (x + 1) L = true) (h2 : inB (x + 2) L = true) (h3 : inB (x + 3) L = true) (h4 : inB (x + 4) L = true) (h5 : inB (x + 5) L = true) (hk : ∀ μ2, Inv μ2 → k none μ2 = X) : runK (P_law L xs x) 94 k 784 [some (.ref 87), some (.ref 0), some (.ref 49), some (.int x)] [] μ = X := by
  refine bfT h1 ?_
  refine bfT h2 ?_
  refine T_kindFor (K := ?K) hI ?hm ?hK
  case hm =>
    intro v μ1
    refine bfT h1 ?_
    refine bfT h2 ?_
    exact rfl
  case hK =>
    intro v w μ2 e hI2
    refine brT e ?_
    refine bfT (lsEq_ok x) ?_
    exact hk _ hI2
set_option maxRecDepth 100000 in
theorem lc_causeFor {L : Nat} {xs : Nat → Int32} {x : Int32} {μ : Mem} {k : Rtn} {X : Option Rz} (hI : Inv μ) (h1 : inB (x + 1) L = true) (h2 : inB (x + 2) L = true) (h3 : inB (x + 3) L = true) (h4 : inB (x + 4) L = true) (h5 : inB (x + 5) L = true) (hk : ∀ μ2, Inv μ2 → k none μ2 = X) : runK (P_law L xs x) 94 k 817 [some (.ref 87), some (.ref 0), some (.ref 49), some (.int x)] [] μ = X := by
  refine bfT h1 ?_
  refine bfT h2 ?_
  refine bfT h3 ?_
  refine T_causeFor (K := ?K) hI ?hm ?hK
  case hm =>
    intro v μ1
    refine bfT h1 ?_
    refine bfT h2 ?_
    refine bfT h3 ?_
    exact rfl
  case hK =>
    intro v w μ2 e hI2
    refine brT e ?_
    refine bfT (lsEq_ok x) ?_
    exact hk _ hI2
set_option maxRecDepth 100000 in
theorem lc_against {L : Nat} {xs : Nat → Int32} {x : Int32} {μ : Mem} {k : Rtn} {X : Option Rz} (hI : Inv μ) (h1 : inB (x + 1) L = true) (h2 : inB (x + 2) L = true) (h3 : inB (x + 3) L = true) (h4 : inB (x + 4) L = true) (h5 : inB (x + 5) L = true) (hk : ∀ μ2, Inv μ2 → k none μ2 = X) : runK (P_law L xs x) 94 k 860 [some (.ref 87), some (.ref 0), some (.ref 49), some (.int x)] [] μ = X := by
  refine bfT h1 ?_
  refine bfT h2 ?_
  refine T_against (K := ?K) hI ?hm ?hK
  case hm =>
    intro v μ1
    refine bfT h1 ?_
    refine bfT h2 ?_
    exact rfl
  case hK =>
    intro v w μ2 e hI2
    refine brT e ?_
    refine bfT (lsEq_ok x) ?_
    exact hk _ hI2
set_option maxRecDepth 100000 in
theorem lc_silence {L : Nat} {xs : Nat → Int32} {x : Int32} {μ : Mem} {k : Rtn} {X : Option Rz} (hI : Inv μ) (h1 : inB (x + 1) L = true) (h2 : inB (x + 2) L = true) (h3 : inB (x + 3) L = true) (h4 : inB (x + 4) L = true) (h5 : inB (x + 5) L = true) (hk : ∀ μ2, Inv μ2 → k none μ2 = X) : runK (P_law L xs x) 94 k 893 [some (.ref 87), some (.ref 0), some (.ref 49), some (.int x)] [] μ = X := by
  refine bfT h1 ?_
  refine bfT h2 ?_
  refine T_silence (K := ?K) hI ?hm ?hK
  case hm =>
    intro v μ1
    refine bfT h1 ?_
    refine bfT h2 ?_
    exact rfl
  case hK =>
    intro v w μ2 e hI2
    refine brT e ?_
    refine bfT (lsEq_ok x) ?_
    exact hk _ hI2
set_option maxRecDepth 100000 in
theorem lc_fits {L : Nat} {xs : Nat → Int32} {x : Int32} {μ : Mem} {k : Rtn} {X : Option Rz} (hI : Inv μ) (h1 : inB (x + 1) L = true) (h2 : inB (x + 2) L = true) (h3 : inB (x + 3) L = true) (h4 : inB (x + 4) L = true) (h5 : inB (x + 5) L = true) (hk : ∀ μ2, Inv μ2 → k none μ2 = X) : runK (P_law L xs x) 94 k 926 [some (.ref 87), some (.ref 0), some (.ref 49), some (.int x)] [] μ = X := by
  refine bfT h1 ?_
  refine bfT h2 ?_
  refine T_fits (K := ?K) hI ?hm ?hK
  case hm =>
    intro v μ1
    refine bfT h1 ?_
    refine bfT h2 ?_
    exact rfl
  case hK =>
    intro v w μ2 e hI2
    refine brT e ?_
    refine bfT (lsEq_ok x) ?_
    exact hk _ hI2
set_option maxRecDepth 100000 in
theorem lc_height {L : Nat} {xs : Nat → Int32} {x : Int32} {μ : Mem} {k : Rtn} {X : Option Rz} (hI : Inv μ) (h1 : inB (x + 1) L = true) (h2 : inB (x + 2) L = true) (h3 : inB (x + 3) L = true) (h4 : inB (x + 4) L = true) (h5 : inB (x + 5) L = true) (hk : ∀ μ2, Inv μ2 → k none μ2 = X) : runK (P_law L xs x) 94 k 959 [some (.ref 87), some (.ref 0), some (.ref 49), some (.int x)] [] μ = X := by
  refine bfT h1 ?_
  refine bfT h2 ?_
  refine T_height (K := ?K) hI ?hm ?hK
  case hm =>
    intro v μ1
    refine bfT h1 ?_
    refine bfT h2 ?_
    exact rfl
  case hK =>
    intro v w μ2 e hI2
    refine brT e ?_
    refine bfT (lsEq_ok x) ?_
    exact hk _ hI2
set_option maxRecDepth 100000 in
theorem lc_kinds {L : Nat} {xs : Nat → Int32} {x : Int32} {μ : Mem} {k : Rtn} {X : Option Rz} (hI : Inv μ) (h1 : inB (x + 1) L = true) (h2 : inB (x + 2) L = true) (h3 : inB (x + 3) L = true) (h4 : inB (x + 4) L = true) (h5 : inB (x + 5) L = true) (hk : ∀ μ2, Inv μ2 → k none μ2 = X) : runK (P_law L xs x) 94 k 992 [some (.ref 87), some (.ref 0), some (.ref 49), some (.int x)] [] μ = X := by
  refine bfT h1 ?_
  refine bfT h2 ?_
  refine T_kinds (K := ?K) hI ?hm ?hK
  case hm =>
    intro v μ1
    refine bfT h1 ?_
    refine bfT h2 ?_
    exact rfl
  case hK =>
    intro v w μ2 e hI2
    refine brT e ?_
    refine bfT (lsEq_ok x) ?_
    exact hk _ hI2
set_option maxRecDepth 100000 in
theorem lc_toss {L : Nat} {xs : Nat → Int32} {x : Int32} {μ : Mem} {k : Rtn} {X : Option Rz} (hI : Inv μ) (h1 : inB (x + 1) L = true) (h2 : inB (x + 2) L = true) (h3 : inB (x + 3) L = true) (h4 : inB (x + 4) L = true) (h5 : inB (x + 5) L = true) (hk : ∀ μ2, Inv μ2 → k none μ2 = X) : runK (P_law L xs x) 94 k 1025 [some (.ref 87), some (.ref 0), some (.ref 49), some (.int x)] [] μ = X := by
  refine bfT h1 ?_
  refine T_toss (K := ?K) hI ?hm ?hK
  case hm =>
    intro v μ1
    refine bfT h1 ?_
    exact rfl
  case hK =>
    intro v w μ2 e hI2
    refine brT e ?_
    refine bfT (lsEq_ok x) ?_
    exact hk _ hI2
set_option maxRecDepth 100000 in
theorem lc_odds {L : Nat} {xs : Nat → Int32} {x : Int32} {μ : Mem} {k : Rtn} {X : Option Rz} (hI : Inv μ) (h1 : inB (x + 1) L = true) (h2 : inB (x + 2) L = true) (h3 : inB (x + 3) L = true) (h4 : inB (x + 4) L = true) (h5 : inB (x + 5) L = true) (hk : ∀ μ2, Inv μ2 → k none μ2 = X) : runK (P_law L xs x) 94 k 1048 [some (.ref 87), some (.ref 0), some (.ref 49), some (.int x)] [] μ = X := by
  refine bfT h1 ?_
  refine bfT h2 ?_
  refine bfT h3 ?_
  refine bfT h4 ?_
  refine T_odds (K := ?K) hI ?hm ?hK
  case hm =>
    intro v μ1
    refine bfT h1 ?_
    refine bfT h2 ?_
    refine bfT h3 ?_
    refine bfT h4 ?_
    exact rfl
  case hK =>
    intro v w μ2 e hI2
    subst e
    refine brT (lg_cmp_self _) ?_
    refine bfT (lsEq_ok x) ?_
    exact hk _ hI2
set_option maxRecDepth 100000 in
theorem lc_seed {L : Nat} {xs : Nat → Int32} {x : Int32} {μ : Mem} {k : Rtn} {X : Option Rz} (hI : Inv μ) (h1 : inB (x + 1) L = true) (h2 : inB (x + 2) L = true) (h3 : inB (x + 3) L = true) (h4 : inB (x + 4) L = true) (h5 : inB (x + 5) L = true) (hk : ∀ μ2, Inv μ2 → k none μ2 = X) : runK (P_law L xs x) 94 k 1102 [some (.ref 87), some (.ref 0), some (.ref 49), some (.int x)] [] μ = X := by
  refine bfT h1 ?_
  refine T_seed (K := ?K) hI ?hm ?hK
  case hm =>
    intro v μ1
    refine bfT h1 ?_
    exact rfl
  case hK =>
    intro v w μ2 e hI2
    refine brT e ?_
    refine bfT (lsEq_ok x) ?_
    exact hk _ hI2
set_option maxRecDepth 100000 in
theorem lc_feed {L : Nat} {xs : Nat → Int32} {x : Int32} {μ : Mem} {k : Rtn} {X : Option Rz} (hI : Inv μ) (h1 : inB (x + 1) L = true) (h2 : inB (x + 2) L = true) (h3 : inB (x + 3) L = true) (h4 : inB (x + 4) L = true) (h5 : inB (x + 5) L = true) (hk : ∀ μ2, Inv μ2 → k none μ2 = X) : runK (P_law L xs x) 94 k 1125 [some (.ref 87), some (.ref 0), some (.ref 49), some (.int x)] [] μ = X := by
  refine bfT h1 ?_
  refine bfT h2 ?_
  refine T_feed (K := ?K) hI ?hm ?hK
  case hm =>
    intro v μ1
    refine bfT h1 ?_
    refine bfT h2 ?_
    exact rfl
  case hK =>
    intro v w μ2 e hI2
    refine brT e ?_
    refine bfT (lsEq_ok x) ?_
    exact hk _ hI2
set_option maxRecDepth 100000 in
theorem lc_wipe {L : Nat} {xs : Nat → Int32} {x : Int32} {μ : Mem} {k : Rtn} {X : Option Rz} (hI : Inv μ) (h1 : inB (x + 1) L = true) (h2 : inB (x + 2) L = true) (h3 : inB (x + 3) L = true) (h4 : inB (x + 4) L = true) (h5 : inB (x + 5) L = true) (hk : ∀ μ2, Inv μ2 → k none μ2 = X) : runK (P_law L xs x) 94 k 1158 [some (.ref 87), some (.ref 0), some (.ref 49), some (.int x)] [] μ = X := by
  refine T_wipe (K := ?K) hI ?hm ?hK
  case hm =>
    intro v μ1
    exact rfl
  case hK =>
    intro v w μ2 e hI2
    refine brT e ?_
    refine bfT (lsEq_ok x) ?_
    exact hk _ hI2
set_option maxRecDepth 100000 in
theorem lc_text {L : Nat} {xs : Nat → Int32} {x : Int32} {μ : Mem} {k : Rtn} {X : Option Rz} (hI : Inv μ) (h1 : inB (x + 1) L = true) (h2 : inB (x + 2) L = true) (h3 : inB (x + 3) L = true) (h4 : inB (x + 4) L = true) (h5 : inB (x + 5) L = true) (hk : ∀ μ2, Inv μ2 → k none μ2 = X) : runK (P_law L xs x) 94 k 1171 [some (.ref 87), some (.ref 0), some (.ref 49), some (.int x)] [] μ = X := by
  refine T_text (K := ?K) hI ?hm ?hK
  case hm =>
    intro v μ1
    exact rfl
  case hK =>
    intro v w μ2 e hI2
    refine brT e ?_
    refine bfT (lsEq_ok x) ?_
    exact hk _ hI2
set_option maxRecDepth 100000 in
theorem lc_hold {L : Nat} {xs : Nat → Int32} {x : Int32} {μ : Mem} {k : Rtn} {X : Option Rz} (hI : Inv μ) (h1 : inB (x + 1) L = true) (h2 : inB (x + 2) L = true) (h3 : inB (x + 3) L = true) (h4 : inB (x + 4) L = true) (h5 : inB (x + 5) L = true) (hk : ∀ μ2, Inv μ2 → k none μ2 = X) : runK (P_law L xs x) 94 k 1184 [some (.ref 87), some (.ref 0), some (.ref 49), some (.int x)] [] μ = X := by
  refine bfT h1 ?_
  refine bfT h2 ?_
  refine T_hold (K := ?K) hI ?hm ?hK
  case hm =>
    intro v μ1
    refine bfT h1 ?_
    refine bfT h2 ?_
    exact rfl
  case hK =>
    intro v w μ2 e hI2
    refine brT e ?_
    refine bfT (lsEq_ok x) ?_
    exact hk _ hI2
set_option maxRecDepth 100000 in
theorem lc_as {L : Nat} {xs : Nat → Int32} {x : Int32} {μ : Mem} {k : Rtn} {X : Option Rz} (hI : Inv μ) (h1 : inB (x + 1) L = true) (h2 : inB (x + 2) L = true) (h3 : inB (x + 3) L = true) (h4 : inB (x + 4) L = true) (h5 : inB (x + 5) L = true) (hk : ∀ μ2, Inv μ2 → k none μ2 = X) : runK (P_law L xs x) 94 k 1217 [some (.ref 87), some (.ref 0), some (.ref 49), some (.int x)] [] μ = X := by
  refine bfT h1 ?_
  refine bfT h2 ?_
  refine T_as (K := ?K) hI ?hm ?hK
  case hm =>
    intro v μ1
    refine bfT h1 ?_
    refine bfT h2 ?_
    exact rfl
  case hK =>
    intro v w μ2 e hI2
    refine brT e ?_
    refine bfT (lsEq_ok x) ?_
    exact hk _ hI2
set_option maxRecDepth 100000 in
theorem lc_sheet {L : Nat} {xs : Nat → Int32} {x : Int32} {μ : Mem} {k : Rtn} {X : Option Rz} (hI : Inv μ) (h1 : inB (x + 1) L = true) (h2 : inB (x + 2) L = true) (h3 : inB (x + 3) L = true) (h4 : inB (x + 4) L = true) (h5 : inB (x + 5) L = true) (hk : ∀ μ2, Inv μ2 → k none μ2 = X) : runK (P_law L xs x) 94 k 1250 [some (.ref 87), some (.ref 0), some (.ref 49), some (.int x)] [] μ = X := by
  refine bfT h1 ?_
  refine bfT h2 ?_
  refine bfT h3 ?_
  refine T_sheet (K := ?K) hI ?hm ?hK
  case hm =>
    intro v μ1
    refine bfT h1 ?_
    refine bfT h2 ?_
    refine bfT h3 ?_
    exact rfl
  case hK =>
    intro v w μ2 e hI2
    refine brT e ?_
    refine bfT (lsEq_ok x) ?_
    exact hk _ hI2
set_option maxRecDepth 100000 in
theorem lc_write {L : Nat} {xs : Nat → Int32} {x : Int32} {μ : Mem} {k : Rtn} {X : Option Rz} (hI : Inv μ) (h1 : inB (x + 1) L = true) (h2 : inB (x + 2) L = true) (h3 : inB (x + 3) L = true) (h4 : inB (x + 4) L = true) (h5 : inB (x + 5) L = true) (hk : ∀ μ2, Inv μ2 → k none μ2 = X) : runK (P_law L xs x) 94 k 1293 [some (.ref 87), some (.ref 0), some (.ref 49), some (.int x)] [] μ = X := by
  refine bfT h1 ?_
  refine bfT h2 ?_
  refine bfT h3 ?_
  refine T_write (K := ?K) hI ?hm ?hK
  case hm =>
    intro v μ1
    refine bfT h1 ?_
    refine bfT h2 ?_
    refine bfT h3 ?_
    exact rfl
  case hK =>
    intro v w μ2 e hI2
    refine brT e ?_
    refine bfT (lsEq_ok x) ?_
    exact hk _ hI2
set_option maxRecDepth 100000 in
theorem lc_copy {L : Nat} {xs : Nat → Int32} {x : Int32} {μ : Mem} {k : Rtn} {X : Option Rz} (hI : Inv μ) (h1 : inB (x + 1) L = true) (h2 : inB (x + 2) L = true) (h3 : inB (x + 3) L = true) (h4 : inB (x + 4) L = true) (h5 : inB (x + 5) L = true) (hk : ∀ μ2, Inv μ2 → k none μ2 = X) : runK (P_law L xs x) 94 k 1336 [some (.ref 87), some (.ref 0), some (.ref 49), some (.int x)] [] μ = X := by
  refine bfT h1 ?_
  refine bfT h2 ?_
  refine bfT h3 ?_
  refine bfT h4 ?_
  refine bfT h5 ?_
  refine T_copy (K := ?K) hI ?hm ?hK
  case hm =>
    intro v μ1
    refine bfT h1 ?_
    refine bfT h2 ?_
    refine bfT h3 ?_
    refine bfT h4 ?_
    refine bfT h5 ?_
    exact rfl
  case hK =>
    intro v w μ2 e hI2
    refine brT e ?_
    refine bfT (lsEq_ok x) ?_
    exact hk _ hI2
set_option maxRecDepth 100000 in
theorem lc_load {L : Nat} {xs : Nat → Int32} {x : Int32} {μ : Mem} {k : Rtn} {X : Option Rz} (hI : Inv μ) (h1 : inB (x + 1) L = true) (h2 : inB (x + 2) L = true) (h3 : inB (x + 3) L = true) (h4 : inB (x + 4) L = true) (h5 : inB (x + 5) L = true) (hk : ∀ μ2, Inv μ2 → k none μ2 = X) : runK (P_law L xs x) 94 k 1399 [some (.ref 87), some (.ref 0), some (.ref 49), some (.int x)] [] μ = X := by
  refine bfT h1 ?_
  refine T_load (K := ?K) hI ?hm ?hK
  case hm =>
    intro v μ1
    refine bfT h1 ?_
    exact rfl
  case hK =>
    intro v w μ2 e hI2
    refine brT e ?_
    refine bfT (lsEq_ok x) ?_
    exact hk _ hI2
set_option maxRecDepth 100000 in
theorem lc_judge {L : Nat} {xs : Nat → Int32} {x : Int32} {μ : Mem} {k : Rtn} {X : Option Rz} (hI : Inv μ) (h1 : inB (x + 1) L = true) (h2 : inB (x + 2) L = true) (h3 : inB (x + 3) L = true) (h4 : inB (x + 4) L = true) (h5 : inB (x + 5) L = true) (hk : ∀ μ2, Inv μ2 → k none μ2 = X) : runK (P_law L xs x) 94 k 1422 [some (.ref 87), some (.ref 0), some (.ref 49), some (.int x)] [] μ = X := by
  refine bfT h1 ?_
  refine T_judge (K := ?K) hI ?hm ?hK
  case hm =>
    intro v μ1
    refine bfT h1 ?_
    exact rfl
  case hK =>
    intro v w μ2 e hI2
    refine brT e ?_
    refine bfT (lsEq_ok x) ?_
    exact hk _ hI2
set_option maxRecDepth 100000 in
theorem lc_image {L : Nat} {xs : Nat → Int32} {x : Int32} {μ : Mem} {k : Rtn} {X : Option Rz} (hI : Inv μ) (h1 : inB (x + 1) L = true) (h2 : inB (x + 2) L = true) (h3 : inB (x + 3) L = true) (h4 : inB (x + 4) L = true) (h5 : inB (x + 5) L = true) (hk : ∀ μ2, Inv μ2 → k none μ2 = X) : runK (P_law L xs x) 94 k 1445 [some (.ref 87), some (.ref 0), some (.ref 49), some (.int x)] [] μ = X := by
  refine T_image (K := ?K) hI ?hm ?hK
  case hm =>
    intro v μ1
    exact rfl
  case hK =>
    intro v w μ2 e hI2
    refine brT e ?_
    refine bfT (lsEq_ok x) ?_
    exact hk _ hI2
set_option maxRecDepth 100000 in
theorem lc_undo {L : Nat} {xs : Nat → Int32} {x : Int32} {μ : Mem} {k : Rtn} {X : Option Rz} (hI : Inv μ) (h1 : inB (x + 1) L = true) (h2 : inB (x + 2) L = true) (h3 : inB (x + 3) L = true) (h4 : inB (x + 4) L = true) (h5 : inB (x + 5) L = true) (hk : ∀ μ2, Inv μ2 → k none μ2 = X) : runK (P_law L xs x) 94 k 1458 [some (.ref 87), some (.ref 0), some (.ref 49), some (.int x)] [] μ = X := by
  refine T_undo (K := ?K) hI ?hm ?hK
  case hm =>
    intro v μ1
    exact rfl
  case hK =>
    intro v w μ2 e hI2
    refine brT e ?_
    refine bfT (lsEq_ok x) ?_
    exact hk _ hI2
set_option maxRecDepth 100000 in
theorem lc_tear {L : Nat} {xs : Nat → Int32} {x : Int32} {μ : Mem} {k : Rtn} {X : Option Rz} (hI : Inv μ) (h1 : inB (x + 1) L = true) (h2 : inB (x + 2) L = true) (h3 : inB (x + 3) L = true) (h4 : inB (x + 4) L = true) (h5 : inB (x + 5) L = true) (hk : ∀ μ2, Inv μ2 → k none μ2 = X) : runK (P_law L xs x) 94 k 1471 [some (.ref 87), some (.ref 0), some (.ref 49), some (.int x)] [] μ = X := by
  refine T_tear (K := ?K) hI ?hm ?hK
  case hm =>
    intro v μ1
    exact rfl
  case hK =>
    intro v w μ2 e hI2
    refine brT e ?_
    refine bfT (lsEq_ok x) ?_
    exact hk _ hI2
set_option maxRecDepth 100000 in
theorem lc_count {L : Nat} {xs : Nat → Int32} {x : Int32} {μ : Mem} {k : Rtn} {X : Option Rz} (hI : Inv μ) (h1 : inB (x + 1) L = true) (h2 : inB (x + 2) L = true) (h3 : inB (x + 3) L = true) (h4 : inB (x + 4) L = true) (h5 : inB (x + 5) L = true) (hk : ∀ μ2, Inv μ2 → k none μ2 = X) : runK (P_law L xs x) 94 k 1484 [some (.ref 87), some (.ref 0), some (.ref 49), some (.int x)] [] μ = X := by
  refine bfT h1 ?_
  refine T_count (K := ?K) hI ?hm ?hK
  case hm =>
    intro v μ1
    refine bfT h1 ?_
    exact rfl
  case hK =>
    intro v w μ2 e hI2
    refine brT e ?_
    refine bfT (lsEq_ok x) ?_
    exact hk _ hI2
set_option maxRecDepth 100000 in
theorem lc_status {L : Nat} {xs : Nat → Int32} {x : Int32} {μ : Mem} {k : Rtn} {X : Option Rz} (hI : Inv μ) (h1 : inB (x + 1) L = true) (h2 : inB (x + 2) L = true) (h3 : inB (x + 3) L = true) (h4 : inB (x + 4) L = true) (h5 : inB (x + 5) L = true) (hk : ∀ μ2, Inv μ2 → k none μ2 = X) : runK (P_law L xs x) 94 k 1507 [some (.ref 87), some (.ref 0), some (.ref 49), some (.int x)] [] μ = X := by
  refine bfT h1 ?_
  refine T_status (K := ?K) hI ?hm ?hK
  case hm =>
    intro v μ1
    refine bfT h1 ?_
    exact rfl
  case hK =>
    intro v w μ2 e hI2
    refine brT e ?_
    refine bfT (lsEq_ok x) ?_
    exact hk _ hI2
set_option maxRecDepth 100000 in
theorem lc_all {L : Nat} {xs : Nat → Int32} {x : Int32} {μ : Mem} {k : Rtn} {X : Option Rz} (hI : Inv μ) (h1 : inB (x + 1) L = true) (h2 : inB (x + 2) L = true) (h3 : inB (x + 3) L = true) (h4 : inB (x + 4) L = true) (h5 : inB (x + 5) L = true) (hk : ∀ μ2, Inv μ2 → k none μ2 = X) (h0 : inB x L = true) : runK (P_law L xs x) 100 k 27 [some (.ref 87), some (.ref 0), some (.ref 49), some (.int x)] [] μ = X := by
  refine bfT h0 ?_
  refine br (fun _ => lc_set hI h1 h2 h3 h4 h5 hk) (fun _ => ?_)
  refine br (fun _ => lc_court hI h1 h2 h3 h4 h5 hk) (fun _ => ?_)
  refine br (fun _ => lc_dispute hI h1 h2 h3 h4 h5 hk) (fun _ => ?_)
  refine br (fun _ => lc_listed hI h1 h2 h3 h4 h5 hk) (fun _ => ?_)
  refine br (fun _ => lc_disputant hI h1 h2 h3 h4 h5 hk) (fun _ => ?_)
  refine br (fun _ => lc_of hI h1 h2 h3 h4 h5 hk) (fun _ => ?_)
  refine br (fun _ => lc_change hI h1 h2 h3 h4 h5 hk) (fun _ => ?_)
  refine br (fun _ => lc_turning hI h1 h2 h3 h4 h5 hk) (fun _ => ?_)
  refine br (fun _ => lc_falls hI h1 h2 h3 h4 h5 hk) (fun _ => ?_)
  refine br (fun _ => lc_go hI h1 h2 h3 h4 h5 hk) (fun _ => ?_)
  refine br (fun _ => lc_now hI h1 h2 h3 h4 h5 hk) (fun _ => ?_)
  refine br (fun _ => lc_ahead hI h1 h2 h3 h4 h5 hk) (fun _ => ?_)
  refine br (fun _ => lc_wrong hI h1 h2 h3 h4 h5 hk) (fun _ => ?_)
  refine br (fun _ => lc_right hI h1 h2 h3 h4 h5 hk) (fun _ => ?_)
  refine br (fun _ => lc_stands hI h1 h2 h3 h4 h5 hk) (fun _ => ?_)
  refine br (fun _ => lc_calm hI h1 h2 h3 h4 h5 hk) (fun _ => ?_)
  refine br (fun _ => lc_heightFor hI h1 h2 h3 h4 h5 hk) (fun _ => ?_)
  refine br (fun _ => lc_spreadFor hI h1 h2 h3 h4 h5 hk) (fun _ => ?_)
  refine br (fun _ => lc_kindFor hI h1 h2 h3 h4 h5 hk) (fun _ => ?_)
  refine br (fun _ => lc_causeFor hI h1 h2 h3 h4 h5 hk) (fun _ => ?_)
  refine br (fun _ => lc_against hI h1 h2 h3 h4 h5 hk) (fun _ => ?_)
  refine br (fun _ => lc_silence hI h1 h2 h3 h4 h5 hk) (fun _ => ?_)
  refine br (fun _ => lc_fits hI h1 h2 h3 h4 h5 hk) (fun _ => ?_)
  refine br (fun _ => lc_height hI h1 h2 h3 h4 h5 hk) (fun _ => ?_)
  refine br (fun _ => lc_kinds hI h1 h2 h3 h4 h5 hk) (fun _ => ?_)
  refine br (fun _ => lc_toss hI h1 h2 h3 h4 h5 hk) (fun _ => ?_)
  refine br (fun _ => lc_odds hI h1 h2 h3 h4 h5 hk) (fun _ => ?_)
  refine br (fun _ => lc_seed hI h1 h2 h3 h4 h5 hk) (fun _ => ?_)
  refine br (fun _ => lc_feed hI h1 h2 h3 h4 h5 hk) (fun _ => ?_)
  refine br (fun _ => lc_wipe hI h1 h2 h3 h4 h5 hk) (fun _ => ?_)
  refine br (fun _ => lc_text hI h1 h2 h3 h4 h5 hk) (fun _ => ?_)
  refine br (fun _ => lc_hold hI h1 h2 h3 h4 h5 hk) (fun _ => ?_)
  refine br (fun _ => lc_as hI h1 h2 h3 h4 h5 hk) (fun _ => ?_)
  refine br (fun _ => lc_sheet hI h1 h2 h3 h4 h5 hk) (fun _ => ?_)
  refine br (fun _ => lc_write hI h1 h2 h3 h4 h5 hk) (fun _ => ?_)
  refine br (fun _ => lc_copy hI h1 h2 h3 h4 h5 hk) (fun _ => ?_)
  refine br (fun _ => lc_load hI h1 h2 h3 h4 h5 hk) (fun _ => ?_)
  refine br (fun _ => lc_judge hI h1 h2 h3 h4 h5 hk) (fun _ => ?_)
  refine br (fun _ => lc_image hI h1 h2 h3 h4 h5 hk) (fun _ => ?_)
  refine br (fun _ => lc_undo hI h1 h2 h3 h4 h5 hk) (fun _ => ?_)
  refine br (fun _ => lc_tear hI h1 h2 h3 h4 h5 hk) (fun _ => ?_)
  refine br (fun _ => lc_count hI h1 h2 h3 h4 h5 hk) (fun _ => ?_)
  refine br (fun _ => lc_status hI h1 h2 h3 h4 h5 hk) (fun _ => ?_)
  refine bfT (lsEq_ok x) ?_
  exact hk _ hI
/-- one call of both, from the loop's head to its step -/
theorem law_once {l : Launch} {G : Gm} {L i : Nat} {xs : Nat → Int32} {μ : Mem} (hI : Inv μ) (hi : i + 6 ≤ L) (hL : L ≤ 3072) : ∃ μ', Inv μ' ∧ TXl l G L xs 27 [some (.ref 87), some (.ref 0), some (.ref 49), some (.int (nI i))] [] μ 1530 [some (.ref 87), some (.ref 0), some (.ref 49), some (.int (nI i))] [] μ' := by
  have hB : ∀ j, j < 6 → inB (nI i + nI j) L = true := fun j hj => by rw [nI_add]; exact inB_nI (by omega) (by omega)
  have hB0 : inB (nI i) L = true := inB_nI (by omega) (by omega)
  obtain ⟨kI, hkI⟩ : ∃ kI : Rtn, ∀ r μ', (Inv μ' → kI r μ' = some (none, μ)) ∧ (kI r μ' = some (none, μ) → Inv μ') := by
    refine ⟨fun _ μ' => @ite _ (Inv μ') (Classical.propDecidable _) (some (none, μ)) none, fun r μ' => ⟨fun h => if_pos h, fun h => ?_⟩⟩
    rcases Classical.em (Inv μ') with q | q
    · exact q
    · have h2 : (@ite (Option Rz) (Inv μ') (Classical.propDecidable _) (some (none, μ)) none) = some (none, μ) := h
      rw [if_neg q] at h2
      cases h2
  have hrun := lc_all (xs := xs) (k := kI) (X := some (none, μ)) hI (hB 1 (by decide)) (hB 2 (by decide)) (hB 3 (by decide)) (hB 4 (by decide)) (hB 5 (by decide)) (fun μ2 h => (hkI none μ2).1 h) hB0
  rcases run_fac (comp_l (l := l) (G := G) (L := L) (xs := xs) (x := nI i)) ok_law 100 27 [some (.ref 87), some (.ref 0), some (.ref 49), some (.int (nI i))] [] μ with ⟨r, μ', g1, g2⟩ | g1
  · rw [g1] at hrun
    exact ⟨μ', (hkI r μ').2 hrun, g2⟩
  · rw [g1] at hrun
    cases hrun
