/-! THE TABLES HOLD: each row of code is what the bytes decode to, fits the locals, and leads where the link tables say; each link is a word of the Statement's tables. -/
def q_tc (t : Jvm.ClassFile.ArrayType) : Nat := match t with
  | .int => 100
  | .char => 101
  | .boolean => 102
  | .long => 103
  | .byte => 104
  | _ => 0
def q_in3 (l : List (Nat × Nat × Nat × Bool × Nat)) (own x r : Nat) : Bool := l.any (fun e => e.1 == own && (e.2.1 == x && e.2.2.1 == r))
def q_in4 (l : List (Nat × Nat × Nat × Nat)) (own x r : Nat) : Bool := l.any (fun e => e.1 == own && (e.2.1 == x && e.2.2.1 == r))
def q_lk (own pc : Nat) (i : Jvm.ClassFile.Instr) (r : Nat) : Bool := match i with
  | .getfield x => r == 9998 || q_in3 q_fl own x r
  | .putfield x => r == 9998 || q_in3 q_fl own x r
  | .getstatic x => r == 9998 || q_in3 q_sl own x r
  | .invokestatic x => r == 9998 || q_in3 q_ml own x r
  | .invokevirtual x => r == 9998 || q_in3 q_ml own x r
  | .invokespecial x => r == 9998 || q_in3 q_ml own x r
  | .new x => q_in4 q_nl own x r
  | .anewarray x => q_in4 q_al own x r
  | .ldc x => q_ll.any (fun e => e.1 == own && (e.2.1 == x && e.2.2 == r))
  | .ldc2_w x => q_in4 q_jl own x r
  | .newarray t => q_tc t == r
  | .ifCond _ o => decide ((pc : Int) + o = (r : Int))
  | .if_icmp _ o => decide ((pc : Int) + o = (r : Int))
  | .if_acmp _ o => decide ((pc : Int) + o = (r : Int))
  | .ifnull o => decide ((pc : Int) + o = (r : Int))
  | .ifnonnull o => decide ((pc : Int) + o = (r : Int))
  | .goto o => decide ((pc : Int) + o = (r : Int))
  | .lookupswitch _ ps => (ps.toList.zip (ps.toList.drop 1)).all (fun (a, next) => a.1 < next.1)
  | _ => true
def q_ck (own : Nat) (b : ByteArray) (nL : Nat) (e : q_I) : Bool := decide (decode b e.1 = .ok (e.2.1, e.2.2.1)) && (decide (q_need e.2.1 ≤ nL) && q_lk own e.1 e.2.1 e.2.2.2)
def q_chk (m : Nat) : Bool := (q_code m).all (q_ck (q_mm m).2.2.2.2.1 (q_mm m).2.1 (q_mm m).2.2.1)
