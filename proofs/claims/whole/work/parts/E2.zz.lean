/-! A branch on what is the same. -/
theorem w_brTr {d m pc r : Nat} {i : Jvm.ClassFile.Instr} {lv : List (Nat × Value)} {st st' : List Value} {S : q_S} {Q : Outcome → q_S → Prop} {y : Int32} (hf : q_fetch m pc = some (i, 3, r)) (hk : q_kd i r = 1) (ho : q_br i st = some (decide (y = y), st')) (k : w_R d m r lv st' S Q) : w_R d m pc lv st S Q := w_brT hf hk ho rfl k
