theorem zleaf {tab : Nat → zT} {own : String} {cc : ByteArray} {nL : Nat} {rt : Option FieldType} {nm : String} {pc p : Nat} {ins : zIns} (h : zSound tab own cc nL rt nm p ins) : zSound tab own cc nL rt nm pc (cond (Nat.beq pc p) ins zi_fail) := by
  cases e : Nat.beq pc p with
  | true => have := Nat.eq_of_beq_eq_true e; subst this; exact h
  | false => exact zs_fail
theorem znode {tab : Nat → zT} {own : String} {cc : ByteArray} {nL : Nat} {rt : Option FieldType} {nm : String} {pc p : Nat} {a b : zIns} (h1 : zSound tab own cc nL rt nm pc a) (h2 : zSound tab own cc nL rt nm pc b) : zSound tab own cc nL rt nm pc (cond (Nat.blt pc p) a b) := by
  cases Nat.blt pc p with
  | true => exact h1
  | false => exact h2
