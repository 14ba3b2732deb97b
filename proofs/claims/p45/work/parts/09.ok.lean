/-! That the resolved code is what the bytecode and the tables say: checked by program, place by place. -/
def atM (i : Nat) (w : Cond) : Bool := decide (lw_tbl[i]? = some w)
def owM (k : Nat) : String := (yM k).cls
def kdM (k : Nat) : Nat := gaM (inM k).2.2.2.2.2 8
def ocM (k : Nat) : Nat := gaM (inM k).2.2.2.2.2 9
def npM (k : Nat) : Nat := gaM (inM k).2.2.2.2.2 10
def rcM (c : Nat) : String := [RX0, RX1, RX2, RX3, RX4, RL].getD c ""
def cwM (k : Nat) : Cond := .code (yM k) (byM k) (mxM k) (rtM k)
/-- where a method's locals hold longs -/
def llM (k : Nat) : List Nat := bif Nat.beq k 106 || Nat.beq k 107 then [1] else bif Nat.beq k 112 then [12] else bif Nat.beq k 113 then [6, 9] else []
def lfM (k x : Nat) : Bool := !(llM k).contains x && (Nat.beq x 0 || !(llM k).contains (x - 1))
def fT (ci k : Nat) : String × String × String × Bool := (clM ci).2.1 k
def tgM (pc : Nat) (off : Int) (a : List Nat) : Bool := decide ((pc : Int) + off = ((gaM a 0 : Nat) : Int))
def swOk (pc : Nat) : List Nat → List (Int × Int) → Bool
  | k :: t :: r, (x, o) :: q => decide (k < 1000) && decide (x = (k : Int)) && decide ((pc : Int) + o = (t : Int)) && swOk pc r q
  | [], [] => true
  | _, _ => false
def clOk (k : Nat) (a : List Nat) : Bool :=
  decide (gaM a 0 < 113) && decide (gaM a 1 ≤ mxM (gaM a 0)) && decide (nfM (gaM a 0) + 1 ≤ nfM k) && decide (8 + (mxM (gaM a 0) + 11) + nlM (gaM a 0) ≤ nlM k) && decide (gaM a 3 = ncM (gaM a 0)) && decide (gaM a 4 = nsM (gaM a 0)) && decide (gaM a 5 = ncM k) && decide (gaM a 6 = nsM k) && decide (gaM a 8 = ocM (gaM a 0)) && decide (ocM (gaM a 0) < 6)
def flW (e : Nat × Nat × Nat × Nat × Nat) : Cond :=
  bif Nat.beq e.2.2.2.2 0 then .fieldLink (rcM e.1) e.2.1 (fT e.2.2.1 e.2.2.2.1).1 (fT e.2.2.1 e.2.2.2.1).2.1 (fT e.2.2.1 e.2.2.2.1).2.2.1
  else .fieldLinkNest (rcM e.1) e.2.1 (fT e.2.2.1 e.2.2.2.1).1 (fT e.2.2.1 e.2.2.2.1).2.1 (fT e.2.2.1 e.2.2.2.1).2.2.1 RX4
def myM (k : Nat) : MethodName := bif Nat.beq k 1000 then Lib.objectInit else bif Nat.beq k 1001 then Lib.Math.max.name else bif Nat.beq k 1002 then Lib.Math.min.name else bif Nat.beq k 1003 then arraycopyName else yM k
def mlW (e : Nat × Nat × Nat × Nat) : Cond := bif Nat.beq e.2.2.2 0 then .methodLink (rcM e.1) e.2.1 (myM e.2.2.1) else .methodLinkNest (rcM e.1) e.2.1 (myM e.2.2.1) RX4
def flI (i : Nat) (e : Nat × Nat × Nat × Nat × Nat) : Bool := decide (flL[i]? = some e)
def mlI (i : Nat) (e : Nat × Nat × Nat × Nat) : Bool := decide (mlL[i]? = some e)
def iaL : Instr → Bool
  | .iadd | .isub | .imul | .iand | .ishl | .ishr | .idiv | .irem | .ineg | .i2l | .i2c | .lcmp | .ladd | .lmul | .iaload | .baload | .aaload | .iastore | .bastore | .aastore | .arraylength | .dup | .dup2 | .pop => true
  | _ => false
def okM (k pc : Nat) (ic : IcM) : Bool :=
  match ic with
  | (i, len, a, c) =>
  decide (decode (byM k) pc = .ok (i, len)) &&
  match i with
  | .iconst n => decide (Int32.ofInt n = c) && Nat.beq len 1
  | .bipush n => decide ((Int8.ofInt n).toInt32 = c) && Nat.beq len 2
  | .sipush n => decide ((Int16.ofInt n).toInt32 = c) && Nat.beq len 3
  | .ldc x => atM (gaM a 0) (.constant (owM k) x c) && Nat.beq len 2
  | .ldc_w x => atM (gaM a 0) (.constant (owM k) x c) && Nat.beq len 3
  | .ldc2_w x => atM (gaM a 0) (.constantLong (owM k) x c.toInt64) && Nat.beq len 3
  | .lload x => Nat.beq (gaM a 0) x && Nat.beq len 2
  | .lload_n x => Nat.beq (gaM a 0) x && Nat.beq len 1
  | .lstore x => Nat.beq (gaM a 0) x && Nat.beq len 2 && decide (gaM a 0 + 1 < mxM k) && (llM k).contains (gaM a 0) && (Nat.beq (gaM a 0) 0 || !(llM k).contains (gaM a 0 - 1))
  | .lstore_n x => Nat.beq (gaM a 0) x && Nat.beq len 1 && decide (gaM a 0 + 1 < mxM k) && (llM k).contains (gaM a 0) && (Nat.beq (gaM a 0) 0 || !(llM k).contains (gaM a 0 - 1))
  | .lreturn => decide (gaM a 0 = ncM k) && decide (gaM a 1 = nsM k) && Nat.beq len 1 && decide (rtM k = some .long)
  | .lconst n => decide (Int64.ofNat (n : Nat) = c.toInt64) && Nat.beq len 1
  | .iload x => Nat.beq (gaM a 0) x && Nat.beq len 2
  | .iload_n x => Nat.beq (gaM a 0) x && Nat.beq len 1
  | .aload x => Nat.beq (gaM a 0) x && Nat.beq len 2
  | .aload_n x => Nat.beq (gaM a 0) x && Nat.beq len 1
  | .istore x => Nat.beq (gaM a 0) x && Nat.beq len 2 && decide (gaM a 0 < mxM k) && lfM k (gaM a 0)
  | .istore_n x => Nat.beq (gaM a 0) x && Nat.beq len 1 && decide (gaM a 0 < mxM k) && lfM k (gaM a 0)
  | .astore x => Nat.beq (gaM a 0) x && Nat.beq len 2 && decide (gaM a 0 < mxM k) && lfM k (gaM a 0)
  | .astore_n x => Nat.beq (gaM a 0) x && Nat.beq len 1 && decide (gaM a 0 < mxM k) && lfM k (gaM a 0)
  | .iinc x n => Nat.beq (gaM a 0) x && Nat.beq len 3 && decide (x < mxM k) && decide (Int32.ofInt n = c) && lfM k x
  | .ifCond _ o => tgM pc o a && Nat.beq len 3
  | .if_icmp _ o => tgM pc o a && Nat.beq len 3
  | .goto o => tgM pc o a && Nat.beq len 3
  | .getfield x => decide (gaM a 0 < 5) && decide (gaM a 1 < (clM (gaM a 0)).2.2) && decide (gaM a 2 = fkN (gaM a 0) (gaM a 1)) && Nat.beq len 3 && decide (gaM a 3 < 2) && flI (gaM a 4) (ocM k, x, gaM a 0, gaM a 1, gaM a 3)
  | .putfield x => decide (gaM a 0 < 5) && decide (gaM a 1 < (clM (gaM a 0)).2.2) && decide (gaM a 2 = fkN (gaM a 0) (gaM a 1)) && Nat.beq len 3 && decide (gaM a 3 < 2) && flI (gaM a 4) (ocM k, x, gaM a 0, gaM a 1, gaM a 3) &&
      (decide ((fT (gaM a 0) (gaM a 1)).2.2.2 = false) || (decide ((fT (gaM a 0) (gaM a 1)).2.2.2 = true) && decide (kdM k = 2) && decide (gaM a 0 = ocM k) && decide (gaM a 3 = 0)))
  | .ireturn => decide (gaM a 0 = ncM k) && decide (gaM a 1 = nsM k) && Nat.beq len 1 && ((decide (gaM a 2 = 1) && decide (rtM k = some .int)) || (decide (gaM a 2 = 2) && decide (rtM k = some .boolean)))
  | .return_ => decide (gaM a 0 = ncM k) && decide (gaM a 1 = nsM k) && Nat.beq len 1 && decide (rtM k = none)
  | .new x => Nat.beq len 3 && decide (gaM a 3 = ncM k) && decide (gaM a 4 = nsM k) && (decide (gaM a 1 < 5) && decide (gaM a 2 = (clM (gaM a 1)).2.2) && atM (gaM a 5) (.classLink (owM k) x (clM (gaM a 1)).1))
  | .newarray t => Nat.beq len 2 && decide (gaM a 1 = ncM k) && decide (gaM a 2 = nsM k) && decide (2 ≤ gaM a 0) && decide (gaM a 0 < 5) && decide (newarray.typeOf t = [FieldType.int, .int, .int, .boolean, .char].getD (gaM a 0) .int)
  | .anewarray x => Nat.beq len 3 && decide (gaM a 1 = ncM k) && decide (gaM a 2 = nsM k) && atM (gaM a 3) (.classLink (owM k) x RX2)
  | .tableswitch d lo hi os => tgM pc d a && decide (lo = 0) && decide (hi + 1 = (os.size : Int)) && swOk pc (a.drop 1) (((List.range os.size).map (fun q : Nat => (q : Int))).zip os.toList)
  | .invokestatic x => Nat.beq len 3 &&
      (bif Nat.beq (gaM a 2) 6 then mlI (gaM a 7) (ocM k, x, 1001, 0) && decide (1 ≤ nfM k) && decide (21 ≤ nlM k) && decide (gaM a 5 = ncM k) && decide (gaM a 6 = nsM k)
       else bif Nat.beq (gaM a 2) 7 then mlI (gaM a 7) (ocM k, x, 1002, 0) && decide (1 ≤ nfM k) && decide (21 ≤ nlM k) && decide (gaM a 5 = ncM k) && decide (gaM a 6 = nsM k)
       else bif Nat.beq (gaM a 2) 8 then mlI (gaM a 7) (ocM k, x, 1003, 0) && decide (1 ≤ nfM k) && decide (8 + (nativeFrameWords "java/lang/System" "arraycopy" 5 + 11) ≤ nlM k)
       else clOk k a && decide (gaM a 1 = npM (gaM a 0)) && decide (kdM (gaM a 0) = 0) &&
         (bif Nat.beq (gaM a 2) 0 then mlI (gaM a 7) (ocM k, x, gaM a 0, 0)
          else decide (gaM a 2 = 1) && mlI (gaM a 7) (ocM k, x, gaM a 0, 1)))
  | .invokevirtual x => Nat.beq len 3 && clOk k a && decide (gaM a 1 = npM (gaM a 0) + 1) && decide (kdM (gaM a 0) = 1) && decide (ocM (gaM a 0) < 5) &&
      (bif Nat.beq (gaM a 2) 2 then mlI (gaM a 7) (ocM k, x, gaM a 0, 0) else decide (gaM a 2 = 3) && mlI (gaM a 7) (ocM k, x, gaM a 0, 1))
  | .invokespecial x => Nat.beq len 3 &&
      (bif Nat.beq (gaM a 2) 9 then mlI (gaM a 7) (ocM k, x, 1000, 0) && decide (1 ≤ nfM k) && decide (20 ≤ nlM k)
       else clOk k a && decide (gaM a 1 = npM (gaM a 0) + 1) && decide (kdM (gaM a 0) = 2) && decide (ocM (gaM a 0) < 5) && decide (rtM (gaM a 0) = none) &&
         (bif Nat.beq (gaM a 2) 4 then mlI (gaM a 7) (ocM k, x, gaM a 0, 0) else decide (gaM a 2 = 5) && mlI (gaM a 7) (ocM k, x, gaM a 0, 1)))
  | j => iaL j && Nat.beq len 1
/-- a method's own row: its words stand in the tables -/
def MtP (k : Nat) : Prop := owM k = rcM (ocM k) ∧ (k = 113 ∨ cwM k ∈ lw_tbl) ∧ (kdM k = 0 → k = 113 ∨ Cond.static (yM k) ∈ lw_tbl) ∧ (kdM k = 1 → Cond.instanceMethod (yM k) ∈ lw_tbl ∧ Cond.selects (owM k) (yM k) (yM k) ∈ lw_tbl) ∧ (kdM k = 2 → Cond.instanceMethod (yM k) ∈ lw_tbl ∧ (yM k).name = "<init>") ∧ (parseMethodDescriptor (yM k).desc).map (fun d => d.parameters.length) = some (npM k)
theorem bt {P : Nat → Prop} {a m b : Nat} (h1 : ∀ k, a ≤ k → k < m → P k) (h2 : ∀ k, m ≤ k → k < b → P k) : ∀ k, a ≤ k → k < b → P k := fun k ha hb => by
  rcases Nat.lt_or_ge k m with h | h
  · exact h1 k ha h
  · exact h2 k h hb
theorem b1 {P : Nat → Prop} {a : Nat} (h : P a) : ∀ k, a ≤ k → k < a + 1 → P k := fun k h1 h2 => by
  have e : k = a := by omega
  subst e
  exact h
theorem rc_init : ∀ c, c < 6 → Cond.initialized (rcM c) ∈ lw_tbl := by
  intro c hc
  rcases (show c = 0 ∨ c = 1 ∨ c = 2 ∨ c = 3 ∨ c = 4 ∨ c = 5 by omega) with rfl | rfl | rfl | rfl | rfl | rfl <;> decide +kernel
theorem rc_plain : ∀ c, c < 6 → plainName (rcM c) = true ∧ rcM c ≠ "java/lang/invoke/MethodHandle" ∧ rcM c ≠ "java/lang/invoke/VarHandle" := by
  intro c hc
  rcases (show c = 0 ∨ c = 1 ∨ c = 2 ∨ c = 3 ∨ c = 4 ∨ c = 5 by omega) with rfl | rfl | rfl | rfl | rfl | rfl <;> decide +kernel
theorem cl_rc : ∀ c, c < 5 → (clM c).1 = rcM c := by
  intro c hc
  rcases (show c = 0 ∨ c = 1 ∨ c = 2 ∨ c = 3 ∨ c = 4 by omega) with rfl | rfl | rfl | rfl | rfl <;> rfl
theorem ma_wd : (Cond.static Lib.Math.max.name ∈ lw_tbl ∧ Cond.code Lib.Math.max.name Lib.Math.max.code 2 (some .int) ∈ lw_tbl) ∧ (Cond.static Lib.Math.min.name ∈ lw_tbl ∧ Cond.code Lib.Math.min.name Lib.Math.min.code 2 (some .int) ∈ lw_tbl) ∧ Cond.initialized "java/lang/Math" ∈ lw_tbl ∧ (Cond.native arraycopyName ∈ lw_tbl ∧ Cond.static arraycopyName ∈ lw_tbl ∧ Cond.initialized "java/lang/System" ∈ lw_tbl) ∧ (Cond.instanceMethod Lib.objectInit ∈ lw_tbl ∧ Cond.code Lib.objectInit ⟨#[0xb1]⟩ 1 none ∈ lw_tbl) :=
  ⟨⟨by decide +kernel, by decide +kernel⟩, ⟨by decide +kernel, by decide +kernel⟩, by decide +kernel, ⟨by decide +kernel, by decide +kernel, by decide +kernel⟩, ⟨by decide +kernel, by decide +kernel⟩⟩
def cdOk (k : Nat) : Bool := (List.range (64 * (cdT k).length)).all fun pc => match cdM k pc with
  | some ic => okM k pc ic
  | none => true
