def cdM (k pc : Nat) : Option IcM := ((cdT k).getD (pc / 64) []).getD (pc % 64) none
def yM (k : Nat) : MethodName := (inM k).1
def byM (k : Nat) : ByteArray := (inM k).2.1
def mxM (k : Nat) : Nat := (inM k).2.2.1
def rtM (k : Nat) : Option FieldType := (inM k).2.2.2.1
def nfM (k : Nat) : Nat := gaM (inM k).2.2.2.2.2 0
def nlM (k : Nat) : Nat := gaM (inM k).2.2.2.2.2 1
def ncM (k : Nat) : Nat := gaM (inM k).2.2.2.2.2 2
def nsM (k : Nat) : Nat := gaM (inM k).2.2.2.2.2 3
def fvM (σ : Mem) (v k κ : Nat) : Value := bif Nat.beq κ 1 then .ref (prM σ v k) else .int (rdM σ v k)
/-- what a call does with its answer: Φ is the callee -/
def caM (Φ : Nat → List Value → Mem → Option OutM) (K : FrM → Mem → Option OutM) (k : Nat) (a : List Nat) (fr : FrM) (σ : Mem) : Option OutM :=
  match fr with
  | (pc, ls, st, kc, ks) =>
    if (gaM a 1 ≤ st.length ∧ (st.take (gaM a 1)).all isOne = true) ∧ catM (st.drop (gaM a 1)) ≤ 8 ∧ kc + gaM a 3 ≤ gaM a 5 ∧ ks + gaM a 4 ≤ gaM a 6 then
      match Φ (gaM a 0) (st.take (gaM a 1)).reverse σ with
      | some (.inl v, σ') => K (pc + 3, ls, v.toList ++ st.drop (gaM a 1), kc + gaM a 3, ks + gaM a 4) σ'
      | some (.inr _, _) => none
      | none => none
    else none
/-- the receiver of a call -/
def rcM_ (n : Nat) (f : Nat → Option OutM) (st : List Value) : Option OutM :=
  match st.drop (n - 1) with
  | .ref b :: _ => f b
  | _ => none
def stM (Φ : Nat → List Value → Mem → Option OutM) (K : FrM → Mem → Option OutM) (k : Nat) (ic : IcM) (fr : FrM) (σ : Mem) : Option OutM :=
  match fr with
  | (pc, ls, st, kc, ks) =>
  match ic with
  | (i, len, a, c) =>
  match i with
  | .iconst _ | .bipush _ | .sipush _ | .ldc _ | .ldc_w _ => K (pc + len, ls, .int c :: st, kc, ks) σ
  | .ldc2_w _ => K (pc + len, ls, .long c.toInt64 :: st, kc, ks) σ
  | .lconst _ => K (pc + len, ls, .long c.toInt64 :: st, kc, ks) σ
  | .iload _ | .iload_n _ => oI (fun x => K (pc + len, ls, .int x :: st, kc, ks) σ) (ls.getD (gaM a 0) none)
  | .lload _ | .lload_n _ => oL (fun x => K (pc + len, ls, .long x :: st, kc, ks) σ) (ls.getD (gaM a 0) none)
  | .lstore _ | .lstore_n _ => sL1 (fun x r => K (pc + len, (ls.set (gaM a 0) (some (.long x))).set (gaM a 0 + 1) none, r, kc, ks) σ) st
  | .ladd => sL2 (fun x y r => K (pc + len, ls, .long (x + y) :: r, kc, ks) σ) st
  | .lmul => sL2 (fun x y r => K (pc + len, ls, .long (x * y) :: r, kc, ks) σ) st
  | .lreturn => match st with
    | [.long x] => if kc ≤ gaM a 0 ∧ ks ≤ gaM a 1 then some (.inl (some (.long x)), σ) else none
    | _ => none
  | .aload _ | .aload_n _ => oR (fun x => K (pc + len, ls, .ref x :: st, kc, ks) σ) (ls.getD (gaM a 0) none)
  | .istore _ | .istore_n _ => sI1 (fun x r => K (pc + len, ls.set (gaM a 0) (some (.int x)), r, kc, ks) σ) st
  | .astore _ | .astore_n _ => sR1 (fun x r => K (pc + len, ls.set (gaM a 0) (some (.ref x)), r, kc, ks) σ) st
  | .iinc _ _ => oI (fun x => K (pc + len, ls.set (gaM a 0) (some (.int (x + c))), st, kc, ks) σ) (ls.getD (gaM a 0) none)
  | .iadd => sI2 (fun x y r => K (pc + len, ls, .int (x + y) :: r, kc, ks) σ) st
  | .isub => sI2 (fun x y r => K (pc + len, ls, .int (x - y) :: r, kc, ks) σ) st
  | .imul => sI2 (fun x y r => K (pc + len, ls, .int (x * y) :: r, kc, ks) σ) st
  | .iand => sI2 (fun x y r => K (pc + len, ls, .int (x &&& y) :: r, kc, ks) σ) st
  | .ishl => sI2 (fun x y r => K (pc + len, ls, .int (x <<< (y &&& 31)) :: r, kc, ks) σ) st
  | .ishr => sI2 (fun x y r => K (pc + len, ls, .int (x >>> (y &&& 31)) :: r, kc, ks) σ) st
  | .idiv => sI2 (fun x y r => if y = 0 then none else K (pc + len, ls, .int (x / y) :: r, kc, ks) σ) st
  | .irem => sI2 (fun x y r => if y = 0 then none else K (pc + len, ls, .int (x - x / y * y) :: r, kc, ks) σ) st
  | .ineg => sI1 (fun x r => K (pc + len, ls, .int (-x) :: r, kc, ks) σ) st
  | .i2l => sI1 (fun x r => K (pc + len, ls, .long x.toInt64 :: r, kc, ks) σ) st
  | .i2c => sI1 (fun x r => K (pc + len, ls, .int (x.toUInt32 % 65536).toInt32 :: r, kc, ks) σ) st
  | .lcmp => sL2 (fun x y r => K (pc + len, ls, .int (lg_cmp x y) :: r, kc, ks) σ) st
  | .ifCond .eq _ => sI1 (fun x r => if x = 0 then K (gaM a 0, ls, r, kc, ks) σ else K (pc + len, ls, r, kc, ks) σ) st
  | .ifCond .ne _ => sI1 (fun x r => if x = 0 then K (pc + len, ls, r, kc, ks) σ else K (gaM a 0, ls, r, kc, ks) σ) st
  | .ifCond .lt _ => sI1 (fun x r => if x < 0 then K (gaM a 0, ls, r, kc, ks) σ else K (pc + len, ls, r, kc, ks) σ) st
  | .ifCond .ge _ => sI1 (fun x r => if x < 0 then K (pc + len, ls, r, kc, ks) σ else K (gaM a 0, ls, r, kc, ks) σ) st
  | .ifCond .gt _ => sI1 (fun x r => if 0 < x then K (gaM a 0, ls, r, kc, ks) σ else K (pc + len, ls, r, kc, ks) σ) st
  | .ifCond .le _ => sI1 (fun x r => if 0 < x then K (pc + len, ls, r, kc, ks) σ else K (gaM a 0, ls, r, kc, ks) σ) st
  | .if_icmp .eq _ => sI2 (fun x y r => if x = y then K (gaM a 0, ls, r, kc, ks) σ else K (pc + len, ls, r, kc, ks) σ) st
  | .if_icmp .ne _ => sI2 (fun x y r => if x = y then K (pc + len, ls, r, kc, ks) σ else K (gaM a 0, ls, r, kc, ks) σ) st
  | .if_icmp .lt _ => sI2 (fun x y r => if x < y then K (gaM a 0, ls, r, kc, ks) σ else K (pc + len, ls, r, kc, ks) σ) st
  | .if_icmp .ge _ => sI2 (fun x y r => if x < y then K (pc + len, ls, r, kc, ks) σ else K (gaM a 0, ls, r, kc, ks) σ) st
  | .if_icmp .gt _ => sI2 (fun x y r => if y < x then K (gaM a 0, ls, r, kc, ks) σ else K (pc + len, ls, r, kc, ks) σ) st
  | .if_icmp .le _ => sI2 (fun x y r => if y < x then K (pc + len, ls, r, kc, ks) σ else K (gaM a 0, ls, r, kc, ks) σ) st
  | .goto _ => K (gaM a 0, ls, st, kc, ks) σ
  | .getfield _ => sR1 (fun v r => if tkM σ v = (1, gaM a 0) then K (pc + len, ls, fvM σ v (gaM a 1) (gaM a 2) :: r, kc, ks) σ else none) st
  | .putfield _ => bif Nat.beq (gaM a 2) 1 then sRR (fun u v r => if tkM σ v = (1, gaM a 0) then K (pc + len, ls, r, kc, ks) (wpM σ v (gaM a 1) u) else none) st
      else bif Nat.beq (gaM a 2) 2 then sIR (fun x v r => if tkM σ v = (1, gaM a 0) ∧ 0 ≤ x ∧ x < 65536 then K (pc + len, ls, r, kc, ks) (wrM σ v (gaM a 1) x) else none) st
      else sIR (fun x v r => if tkM σ v = (1, gaM a 0) then K (pc + len, ls, r, kc, ks) (wrM σ v (gaM a 1) x) else none) st
  | .iaload => sIR (fun i v r => if aOk 2 σ v i then K (pc + len, ls, .int (rdM σ v i.toNatClampNeg) :: r, kc, ks) σ else none) st
  | .baload => sIR (fun i v r => if aOk 3 σ v i then K (pc + len, ls, .int (rdM σ v i.toNatClampNeg) :: r, kc, ks) σ else none) st
  | .aaload => sIR (fun i v r => if aOk 6 σ v i then K (pc + len, ls, .ref (prM σ v i.toNatClampNeg) :: r, kc, ks) σ else none) st
  | .iastore => sIIR (fun x i v r => if aOk 2 σ v i ∧ 8 ≤ v then K (pc + len, ls, r, kc, ks) (wrM σ v i.toNatClampNeg x) else none) st
  | .bastore => sIIR (fun x i v r => if aOk 3 σ v i then K (pc + len, ls, r, kc, ks) (wrM σ v i.toNatClampNeg (x &&& 1)) else none) st
  | .aastore => sRIR (fun u i v r => if aOk 6 σ v i ∧ tkM σ u = (1, 2) then K (pc + len, ls, r, kc, ks) (wpM σ v i.toNatClampNeg u) else none) st
  | .arraylength => sR1 (fun v r => if (tkM σ v).1 = 2 then K (pc + len, ls, .int (Int32.ofNat (tkM σ v).2) :: r, kc, ks) σ else none) st
  | .dup => match st with
    | v :: r => bif isOne v then K (pc + len, ls, v :: v :: r, kc, ks) σ else none
    | _ => none
  | .dup2 => match st with
    | v :: w :: r => bif isOne v && isOne w then K (pc + len, ls, v :: w :: v :: w :: r, kc, ks) σ else none
    | _ => none
  | .pop => match st with
    | v :: r => bif isOne v then K (pc + len, ls, r, kc, ks) σ else none
    | _ => none
  | .ireturn => match st with
    | [.int x] => if kc ≤ gaM a 0 ∧ ks ≤ gaM a 1 then bif Nat.beq (gaM a 2) 2 then (if x = 0 ∨ x = 1 then some (.inl (some (.int x)), σ) else none) else some (.inl (some (.int x)), σ) else none
    | _ => none
  | .return_ => match st with
    | [] => if kc ≤ gaM a 0 ∧ ks ≤ gaM a 1 then some (.inl none, σ) else none
    | _ => none
  | .new _ => if kc + 1 ≤ gaM a 3 ∧ ks + gaM a 2 ≤ gaM a 4 then K (pc + len, ls, .ref (nxM σ) :: st, kc + 1, ks + gaM a 2) (nwM σ 1 (gaM a 1)) else none
  | .newarray _ => sI1 (fun n r => if ¬ n < 0 ∧ n.toNatClampNeg ≤ 5000 ∧ kc + 1 ≤ gaM a 1 ∧ ks + n.toNatClampNeg ≤ gaM a 2 then K (pc + len, ls, .ref (nxM σ) :: r, kc + 1, ks + n.toNatClampNeg) (nwM σ (gaM a 0) n.toNatClampNeg) else none) st
  | .anewarray _ => sI1 (fun n r => if ¬ n < 0 ∧ n.toNatClampNeg ≤ 5000 ∧ kc + 1 ≤ gaM a 1 ∧ ks + n.toNatClampNeg ≤ gaM a 2 then K (pc + len, ls, .ref (nxM σ) :: r, kc + 1, ks + n.toNatClampNeg) (nwM σ 6 n.toNatClampNeg) else none) st
  | .tableswitch _ _ _ _ => sI1 (fun x r => swM x (gaM a 0) (fun t => K (t, ls, r, kc, ks) σ) (a.drop 1)) st
  | .invokestatic _ =>
      bif Nat.beq (gaM a 2) 6 then sI2 (fun x y r => if catM r ≤ 8 ∧ kc ≤ gaM a 5 ∧ ks ≤ gaM a 6 then K (pc + 3, ls, .int (if x < y then y else x) :: r, kc, ks) σ else none) st
      else bif Nat.beq (gaM a 2) 7 then sI2 (fun x y r => if catM r ≤ 8 ∧ kc ≤ gaM a 5 ∧ ks ≤ gaM a 6 then K (pc + 3, ls, .int (if y < x then y else x) :: r, kc, ks) σ else none) st
      else bif Nat.beq (gaM a 2) 8 then sCp (fun n dp dv sp sv r => if ((tkM σ sv).1 = 2 ∧ 8 ≤ sv ∧ (tkM σ dv).1 = 2 ∧ 8 ≤ dv) ∧ (¬ sp < 0 ∧ ¬ dp < 0 ∧ ¬ n < 0) ∧ sp.toNatClampNeg + n.toNatClampNeg ≤ (tkM σ sv).2 ∧ dp.toNatClampNeg + n.toNatClampNeg ≤ (tkM σ dv).2 ∧ catM r ≤ 8 then
          K (pc + 3, ls, r, kc, ks) (cpM σ sv sp.toNatClampNeg dv dp.toNatClampNeg n.toNatClampNeg) else none) st
      else caM Φ K k a (pc, ls, st, kc, ks) σ
  | .invokevirtual _ => rcM_ (gaM a 1) (fun b => if tkM σ b = (1, gaM a 8) then caM Φ K k a (pc, ls, st, kc, ks) σ else none) st
  | .invokespecial _ =>
      bif Nat.beq (gaM a 2) 9 then sR1 (fun v r => if ¬ v = 0 ∧ catM r ≤ 8 then K (pc + 3, ls, r, kc, ks) σ else none) st
      else rcM_ (gaM a 1) (fun b => if tkM σ b = (1, gaM a 8) then caM Φ K k a (pc, ls, st, kc, ks) σ else none) st
  | _ => none
/-- a method's entry -/
def enM (k : Nat) (as : List Value) : FrM := (0, as.map some ++ List.replicate (mxM k - as.length) none, [], 0, 0)
def runM : Nat → Nat → FrM → Mem → Option OutM
  | 0, _, _, _ => none
  | n + 1, k, fr, σ => match cdM k fr.1 with
    | some ic => stM (fun k' as σ' => runM n k' (enM k' as) σ') (runM n k) k ic fr σ
    | none => none
