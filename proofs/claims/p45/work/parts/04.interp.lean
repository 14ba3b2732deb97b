/-! A small machine over a memory of numbered objects: rows of ints and rows of references. Its runs are what is reasoned about; that the bytecode does the same is proved behind. -/
abbrev Mem : Type := (Nat → Nat × Nat) × Nat × (Nat → Nat → Int32) × (Nat → Nat → Nat)
def tkM (σ : Mem) (v : Nat) : Nat × Nat := σ.1 v
def nxM (σ : Mem) : Nat := σ.2.1
def rdM (σ : Mem) (v j : Nat) : Int32 := σ.2.2.1 v j
def prM (σ : Mem) (v j : Nat) : Nat := σ.2.2.2 v j
def wrM (σ : Mem) (v j : Nat) (x : Int32) : Mem := (σ.1, σ.2.1, (fun a i => if a = v ∧ i = j then x else σ.2.2.1 a i), σ.2.2.2)
def wpM (σ : Mem) (v j : Nat) (x : Nat) : Mem := (σ.1, σ.2.1, σ.2.2.1, fun a i => if a = v ∧ i = j then x else σ.2.2.2 a i)
def nwM (σ : Mem) (κ n : Nat) : Mem := ((fun a => if a = σ.2.1 then (κ, n) else σ.1 a), σ.2.1 + 1, (fun a i => if a = σ.2.1 then 0 else σ.2.2.1 a i), fun a i => if a = σ.2.1 then 0 else σ.2.2.2 a i)
def cpM (σ : Mem) (sv sp dv dp n : Nat) : Mem := (σ.1, σ.2.1, (fun a i => if a = dv ∧ (dp ≤ i ∧ i < dp + n) then σ.2.2.1 sv (sp + (i - dp)) else σ.2.2.1 a i), σ.2.2.2)
/-- an instruction: as it is decoded, its length, what its numbers stand for, a constant -/
abbrev IcM : Type := Instr × Nat × List Nat × Int32
/-- pc, locals, stack, cells and slots made so far -/
abbrev FrM : Type := Nat × List (Option Value) × List Value × Nat × Nat
/-- a value returned, or the number of the exception that was thrown -/
abbrev OutM : Type := (Option Value ⊕ Nat) × Mem
def gaM (a : List Nat) (i : Nat) : Nat := a.getD i 0
def sI1 (f : Int32 → List Value → Option OutM) : List Value → Option OutM
  | .int x :: r => f x r
  | _ => none
def sI2 (f : Int32 → Int32 → List Value → Option OutM) : List Value → Option OutM
  | .int y :: .int x :: r => f x y r
  | _ => none
def sL2 (f : Int64 → Int64 → List Value → Option OutM) : List Value → Option OutM
  | .long y :: .long x :: r => f x y r
  | _ => none
def sL1 (f : Int64 → List Value → Option OutM) : List Value → Option OutM
  | .long x :: r => f x r
  | _ => none
def sR1 (f : Nat → List Value → Option OutM) : List Value → Option OutM
  | .ref v :: r => f v r
  | _ => none
def sIR (f : Int32 → Nat → List Value → Option OutM) : List Value → Option OutM
  | .int i :: .ref v :: r => f i v r
  | _ => none
def sIIR (f : Int32 → Int32 → Nat → List Value → Option OutM) : List Value → Option OutM
  | .int x :: .int i :: .ref v :: r => f x i v r
  | _ => none
def sRIR (f : Nat → Int32 → Nat → List Value → Option OutM) : List Value → Option OutM
  | .ref u :: .int i :: .ref v :: r => f u i v r
  | _ => none
def sRR (f : Nat → Nat → List Value → Option OutM) : List Value → Option OutM
  | .ref u :: .ref v :: r => f u v r
  | _ => none
def sCp (f : Int32 → Int32 → Nat → Int32 → Nat → List Value → Option OutM) : List Value → Option OutM
  | .int n :: .int dp :: .ref dv :: .int sp :: .ref sv :: r => f n dp dv sp sv r
  | _ => none
def oI (f : Int32 → Option OutM) : Option Value → Option OutM
  | some (.int x) => f x
  | _ => none
def oL (f : Int64 → Option OutM) : Option Value → Option OutM
  | some (.long x) => f x
  | _ => none
def oR (f : Nat → Option OutM) : Option Value → Option OutM
  | some (.ref x) => f x
  | _ => none
def isOne : Value → Bool
  | .int _ | .ref _ => true
  | _ => false
def catM : List Value → Nat
  | [] => 0
  | .long _ :: r => catM r + 2
  | .double _ :: r => catM r + 2
  | _ :: r => catM r + 1
/-- a switch: its keys and targets by pairs -/
def swM (x : Int32) (d : Nat) (K : Nat → Option OutM) : List Nat → Option OutM
  | k :: t :: r => if x = Int32.ofNat k then K t else swM x d K r
  | _ => K d
abbrev aOk (κ : Nat) (σ : Mem) (v : Nat) (i : Int32) : Prop := (tkM σ v).1 = κ ∧ ¬ (i < 0 ∨ (tkM σ v).2 ≤ i.toNatClampNeg)
