/-! A small machine of our own: every value is an Int with a kind (0 int, 1 long, 2 reference, 3 nothing); the heap is one function of address and place.
Address 0 is null: there the count of cells (place 0) and of slots (place 1) is kept. Address 1 is the script. Place -1 of an address is its kind, place -2 its length. -/
abbrev zTV : Type := Nat × Int
abbrev zC : Type := Int → Int → Int
abbrev zR : Type := Option (Int × zC)
abbrev zK : Type := Nat → List zTV → List zTV → zC → zR
abbrev zCall : Type := Nat → List Int → zC → zR
abbrev zIns : Type := zCall → List zTV → List zTV → zC → zK → zR
def zup (c : zC) (a k v : Int) : zC := fun b j => if b = a ∧ j = k then v else c b j
def zw (x : Int) : Int := Int.bmod x 4294967296
def zbnd (r : zR) (f : Int → zC → zR) : zR := match r with
  | some q => f q.1 q.2
  | none => none
def znth : List zTV → Nat → zTV
  | [], _ => (3, 0)
  | x :: _, 0 => x
  | _ :: r, n + 1 => znth r n
/-- a store into the locals: a long whose second half is hit is gone -/
def zset : List zTV → Nat → zTV → List zTV
  | [], _, _ => []
  | _ :: r, 0, v => v :: r
  | x :: r, 1, v => cond (Nat.beq x.1 1) (3, 0) x :: zset r 0 v
  | x :: r, n + 2, v => x :: zset r (n + 1) v
def zcat : List zTV → Nat
  | [] => 0
  | x :: r => cond (Nat.beq x.1 1) 2 1 + zcat r
def zpop : List Nat → List zTV → List Int → (List Int → List zTV → zR) → zR
  | [], st, as, k => cond (Nat.ble (zcat st) 8) (k as st) none
  | _ :: _, [], _, _ => none
  | t :: ts, x :: st, as, k => cond (Nat.beq t x.1) (zpop ts st (x.2 :: as) k) none
def zi_fail : zIns := fun _ _ _ _ _ => none
def zi_iconst (v : Int) (nx : Nat) : zIns := fun _ ls st c k => k nx ls ((0, v) :: st) c
def zi_lconst (v : Int) (nx : Nat) : zIns := fun _ ls st c k => k nx ls ((1, v) :: st) c
def zi_null (nx : Nat) : zIns := fun _ ls st c k => k nx ls ((2, 0) :: st) c
def zi_load (t i : Nat) (nx : Nat) : zIns := fun _ ls st c k => cond (Nat.beq (znth ls i).1 t) (k nx ls ((t, (znth ls i).2) :: st) c) none
def zi_store1 (t i : Nat) (nx : Nat) : zIns := fun _ ls st c k => match st with
  | x :: st => cond (Nat.beq x.1 t) (k nx (zset ls i (t, x.2)) st c) none
  | _ => none
def zi_lstore (i : Nat) (nx : Nat) : zIns := fun _ ls st c k => match st with
  | x :: st => cond (Nat.beq x.1 1) (k nx (zset (zset ls (i + 1) (3, 0)) i (1, x.2)) st c) none
  | _ => none
def zi_iinc (i : Nat) (d : Int) (nx : Nat) : zIns := fun _ ls st c k => cond (Nat.beq (znth ls i).1 0) (k nx (zset ls i (0, zw ((znth ls i).2 + d))) st c) none
/-- two ints to one -/
def zi_bin (f : Int → Int → Int) (nx : Nat) : zIns := fun _ ls st c k => match st with
  | y :: x :: st => cond (Nat.beq y.1 0) (cond (Nat.beq x.1 0) (k nx ls ((0, f x.2 y.2) :: st) c) none) none
  | _ => none
def zi_lbin (ty : Nat) (f : Int → Int → Int) (nx : Nat) : zIns := fun _ ls st c k => match st with
  | y :: x :: st => cond (Nat.beq y.1 ty) (cond (Nat.beq x.1 1) (k nx ls ((1, f x.2 y.2) :: st) c) none) none
  | _ => none
def zadd (x y : Int) : Int := zw (x + y)
def zsub (x y : Int) : Int := zw (x - y)
def zmul (x y : Int) : Int := zw (x * y)
def zishl (x y : Int) : Int := (Int32.ofInt x <<< (Int32.ofInt y &&& 31)).toInt
def zishr (x y : Int) : Int := (Int32.ofInt x >>> (Int32.ofInt y &&& 31)).toInt
def ziand (x y : Int) : Int := (Int32.ofInt x &&& Int32.ofInt y).toInt
def zior (x y : Int) : Int := (Int32.ofInt x ||| Int32.ofInt y).toInt
def zixor (x y : Int) : Int := (Int32.ofInt x ^^^ Int32.ofInt y).toInt
def zland (x y : Int) : Int := (Int64.ofInt x &&& Int64.ofInt y).toInt
def zlor (x y : Int) : Int := (Int64.ofInt x ||| Int64.ofInt y).toInt
def zlshl (x y : Int) : Int := (Int64.ofInt x <<< ((Int32.ofInt y).toInt64 &&& 63)).toInt
def zlushr (x y : Int) : Int := (((Int64.ofInt x).toUInt64 >>> ((Int32.ofInt y).toInt64.toUInt64 &&& Int64.toUInt64 63)).toInt64).toInt
def zl2i (x : Int) : Int := (Int64.ofInt x).toInt32.toInt
def zmax (x y : Int) : Int := if x < y then y else x
def zmin (x y : Int) : Int := if y < x then y else x
def zi_lcmp (nx : Nat) : zIns := fun _ ls st c k => match st with
  | y :: x :: st => cond (Nat.beq y.1 1) (cond (Nat.beq x.1 1) (k nx ls ((0, if y.2 < x.2 then 1 else if x.2 = y.2 then 0 else -1) :: st) c) none) none
  | _ => none
def zi_i2l (nx : Nat) : zIns := fun _ ls st c k => match st with
  | x :: st => cond (Nat.beq x.1 0) (k nx ls ((1, x.2) :: st) c) none
  | _ => none
def zi_l2i (nx : Nat) : zIns := fun _ ls st c k => match st with
  | x :: st => cond (Nat.beq x.1 1) (k nx ls ((0, zl2i x.2) :: st) c) none
  | _ => none
def zi_ifeq (t nx : Nat) : zIns := fun _ ls st c k => match st with
  | x :: st => cond (Nat.beq x.1 0) (if x.2 = 0 then k t ls st c else k nx ls st c) none
  | _ => none
def zi_iflt (t nx : Nat) : zIns := fun _ ls st c k => match st with
  | x :: st => cond (Nat.beq x.1 0) (if x.2 < 0 then k t ls st c else k nx ls st c) none
  | _ => none
def zi_ifle (t nx : Nat) : zIns := fun _ ls st c k => match st with
  | x :: st => cond (Nat.beq x.1 0) (if x.2 ≤ 0 then k t ls st c else k nx ls st c) none
  | _ => none
def zi_ceq (t nx : Nat) : zIns := fun _ ls st c k => match st with
  | y :: x :: st => cond (Nat.beq y.1 0) (cond (Nat.beq x.1 0) (if x.2 = y.2 then k t ls st c else k nx ls st c) none) none
  | _ => none
def zi_clt (t nx : Nat) : zIns := fun _ ls st c k => match st with
  | y :: x :: st => cond (Nat.beq y.1 0) (cond (Nat.beq x.1 0) (if x.2 < y.2 then k t ls st c else k nx ls st c) none) none
  | _ => none
def zi_cle (t nx : Nat) : zIns := fun _ ls st c k => match st with
  | y :: x :: st => cond (Nat.beq y.1 0) (cond (Nat.beq x.1 0) (if x.2 ≤ y.2 then k t ls st c else k nx ls st c) none) none
  | _ => none
def zi_ifnull (t nx : Nat) : zIns := fun _ ls st c k => match st with
  | x :: st => cond (Nat.beq x.1 2) (if x.2 = 0 then k t ls st c else k nx ls st c) none
  | _ => none
def zi_goto (t : Nat) : zIns := fun _ ls st c k => k t ls st c
def zsw (x : Int) (d : Nat) (k : Nat → zR) : List (Int × Nat) → zR
  | [] => k d
  | q :: r => if x = q.1 then k q.2 else zsw x d k r
def zi_switch (d : Nat) (qs : List (Int × Nat)) : zIns := fun _ ls st c k => match st with
  | x :: st => cond (Nat.beq x.1 0) (zsw x.2 d (fun t => k t ls st c) qs) none
  | _ => none
def zi_dup (nx : Nat) : zIns := fun _ ls st c k => match st with
  | x :: st => cond (Nat.beq x.1 1) none (k nx ls (x :: x :: st) c)
  | _ => none
def zi_dup2 (nx : Nat) : zIns := fun _ ls st c k => match st with
  | y :: x :: st => cond (Nat.beq y.1 1) none (cond (Nat.beq x.1 1) none (k nx ls (y :: x :: y :: x :: st) c))
  | _ => none
def zi_pop (nx : Nat) : zIns := fun _ ls st c k => match st with
  | x :: st => cond (Nat.beq x.1 1) none (k nx ls st c)
  | _ => none
/-- ci: the class's number, f: the field's place, ty: its kind -/
def zi_get (ci f : Int) (ty : Nat) (nx : Nat) : zIns := fun _ ls st c k => match st with
  | a :: st => cond (Nat.beq a.1 2) (if c a.2 (-1) = ci then k nx ls ((ty, c a.2 f) :: st) c else none) none
  | _ => none
def zi_put (ci f : Int) (ty : Nat) (nx : Nat) : zIns := fun _ ls st c k => match st with
  | v :: a :: st => cond (Nat.beq v.1 ty) (cond (Nat.beq a.1 2) (if c a.2 (-1) = ci then k nx ls st (zup c a.2 f v.2) else none) none) none
  | _ => none
def zi_putZ (ci f : Int) (nx : Nat) : zIns := fun _ ls st c k => match st with
  | v :: a :: st => cond (Nat.beq v.1 0) (cond (Nat.beq a.1 2) (if c a.2 (-1) = ci then (if v.2 = 0 ∨ v.2 = 1 then k nx ls st (zup c a.2 f v.2) else none) else none) none) none
  | _ => none
/-- kd: the array's kind, ty: its elements' -/
def zi_ald (kd : Int) (ty : Nat) (nx : Nat) : zIns := fun _ ls st c k => match st with
  | i :: a :: st => cond (Nat.beq i.1 0) (cond (Nat.beq a.1 2) (if c a.2 (-1) = kd ∧ 0 ≤ i.2 ∧ i.2 < c a.2 (-2) then k nx ls ((ty, c a.2 i.2) :: st) c else none) none) none
  | _ => none
def zi_ast (kd : Int) (ty : Nat) (nx : Nat) : zIns := fun _ ls st c k => match st with
  | v :: i :: a :: st => cond (Nat.beq v.1 ty) (cond (Nat.beq i.1 0) (cond (Nat.beq a.1 2) (if c a.2 (-1) = kd ∧ 0 ≤ i.2 ∧ i.2 < c a.2 (-2) then k nx ls st (zup c a.2 i.2 v.2) else none) none) none) none
  | _ => none
def zi_astZ (nx : Nat) : zIns := fun _ ls st c k => match st with
  | v :: i :: a :: st => cond (Nat.beq v.1 0) (cond (Nat.beq i.1 0) (cond (Nat.beq a.1 2) (if c a.2 (-1) = 102 ∧ 0 ≤ i.2 ∧ i.2 < c a.2 (-2) then (if v.2 = 0 ∨ v.2 = 1 then k nx ls st (zup c a.2 i.2 v.2) else none) else none) none) none) none
  | _ => none
/-- a reference to an object of class ci into an array of kind 109 + ci -/
def zi_astR (ci : Int) (nx : Nat) : zIns := fun _ ls st c k => match st with
  | v :: i :: a :: st => cond (Nat.beq v.1 2) (cond (Nat.beq i.1 0) (cond (Nat.beq a.1 2) (if c a.2 (-1) = 109 + ci ∧ 0 ≤ i.2 ∧ i.2 < c a.2 (-2) then (if c v.2 (-1) = ci then k nx ls st (zup c a.2 i.2 v.2) else none) else none) none) none) none
  | _ => none
def zi_alen (kd : Int) (nx : Nat) : zIns := fun _ ls st c k => match st with
  | a :: st => cond (Nat.beq a.1 2) (if c a.2 (-1) = kd then k nx ls ((0, c a.2 (-2)) :: st) c else none) none
  | _ => none
/-- a new cell of a kind, with n slots -/
def znew (c : zC) (kd n : Int) : zC := fun a j => if a = c 0 0 then (if j = -1 then kd else if j = -2 then n else 0) else if a = 0 ∧ j = 0 then c 0 0 + 1 else if a = 0 ∧ j = 1 then c 0 1 + n else c a j
def zi_new (ci n : Int) (nx : Nat) : zIns := fun _ ls st c k => k nx ls ((2, c 0 0) :: st) (znew c ci n)
def zi_newa (kd : Int) (nx : Nat) : zIns := fun _ ls st c k => match st with
  | n :: st => cond (Nat.beq n.1 0) (if 0 ≤ n.2 ∧ n.2 ≤ 20000 then k nx ls ((2, c 0 0) :: st) (znew c kd n.2) else none) none
  | _ => none
def zi_objinit (nx : Nat) : zIns := fun _ ls st c k => match st with
  | a :: st => cond (Nat.beq a.1 2) (cond (Nat.ble (zcat st) 8) (if a.2 = 0 then none else k nx ls st c) none) none
  | _ => none
def zi_minmax (f : Int → Int → Int) (nx : Nat) : zIns := fun _ ls st c k => match st with
  | y :: x :: st => cond (Nat.beq y.1 0) (cond (Nat.beq x.1 0) (cond (Nat.ble (zcat st) 8) (k nx ls ((0, f x.2 y.2) :: st) c) none) none) none
  | _ => none
def zcopy (c : zC) (s sp d dp n : Int) : zC := fun b j => if b = d ∧ dp ≤ j ∧ j < dp + n then c s (sp + (j - dp)) else c b j
def zi_copy (kd : Int) (nx : Nat) : zIns := fun _ ls st c k => match st with
  | n :: dp :: d :: sp :: s :: st => cond (Nat.beq n.1 0) (cond (Nat.beq dp.1 0) (cond (Nat.beq d.1 2) (cond (Nat.beq sp.1 0) (cond (Nat.beq s.1 2) (cond (Nat.ble (zcat st) 8)
      (if c s.2 (-1) = kd ∧ c d.2 (-1) = kd ∧ 0 ≤ n.2 ∧ 0 ≤ sp.2 ∧ 0 ≤ dp.2 ∧ sp.2 + n.2 ≤ c s.2 (-2) ∧ dp.2 + n.2 ≤ c d.2 (-2) then k nx ls st (zcopy c s.2 sp.2 d.2 dp.2 n.2) else none) none) none) none) none) none) none
  | _ => none
/-- a call of a static method: tg: its arguments' kinds, the last first; rt: its answer's kind, 3 for none -/
def zi_callS (mi : Nat) (tg : List Nat) (rt : Nat) (nx : Nat) : zIns := fun call ls st c k => zpop tg st [] (fun as r => zbnd (call mi as c) (fun v c' => k nx ls (cond (Nat.beq rt 3) r ((rt, v) :: r)) c'))
/-- a call on an object of class ci -/
def zi_callV (ci : Int) (mi : Nat) (tg : List Nat) (rt : Nat) (nx : Nat) : zIns := fun call ls st c k => zpop tg st [] (fun as r => match as with
  | a :: _ => if c a (-1) = ci then zbnd (call mi as c) (fun v c' => k nx ls (cond (Nat.beq rt 3) r ((rt, v) :: r)) c') else none
  | [] => none)
def zi_ret (t : Nat) : zIns := fun _ _ st c _ => match st with
  | [x] => cond (Nat.beq x.1 t) (some (x.2, c)) none
  | _ => none
def zi_zret : zIns := fun _ _ st c _ => match st with
  | [x] => cond (Nat.beq x.1 0) (if x.2 = 0 ∨ x.2 = 1 then some (x.2, c) else none) none
  | _ => none
def zi_vret : zIns := fun _ _ st c _ => match st with
  | [] => some (0, c)
  | _ => none
/-- at a cut the locals that are not read any more are forgotten -/
def zmask : List Bool → List zTV → List zTV
  | [], l => l
  | _ :: _, [] => []
  | b :: bs, x :: l => cond b x (3, 0) :: zmask bs l
def zcut (q : Option (List Bool)) (a : List Bool → zR) (b : zR) : zR := match q with
  | some m => a m
  | none => b
/-- from a place on to the next cut -/
def zseg (code : Nat → zIns) (cuts : Nat → Option (List Bool)) (call : zCall) (K : zK) : Nat → zK
  | 0 => fun _ _ _ _ => none
  | n + 1 => fun pc ls st c => code pc call ls st c (fun pc' ls' st' c' => zcut (cuts pc') (fun m => K pc' (zmask m ls') st' c') (zseg code cuts call K n pc' ls' st' c'))
def zex (code : Nat → zIns) (cuts : Nat → Option (List Bool)) (call : zCall) : Nat → zK
  | 0 => fun _ _ _ _ => none
  | n + 1 => zseg code cuts call (zex code cuts call n) 1000
def zent : List Nat → List Int → List zTV
  | t :: ts, x :: xs => cond (Nat.beq t 1) ((1, x) :: (3, 0) :: zent ts xs) ((t, x) :: zent ts xs)
  | _, _ => []
def zpad : Nat → List zTV → List zTV
  | 0, _ => []
  | n + 1, [] => (3, 0) :: zpad n []
  | n + 1, x :: l => x :: zpad n l
/-- what is known of a method: its code, its cuts, its arguments' kinds, its locals -/
abbrev zM : Type := (Nat → zIns) × (Nat → Option (List Bool)) × List Nat × Nat
def zrunM (q : zM) (call : zCall) (as : List Int) (c : zC) : zR := zex q.1 q.2.1 call 20000 0 (zpad q.2.2.2 (zent q.2.2.1 as)) [] c
