set_option maxRecDepth 100000 in
theorem zf_X10_with (call : zCall) (K : zK) (x0 x2 : Int) (c : zC) : zseg zc_X10_with zk_X10_with call K 1000 0 [(1, x0), (3, 0), (0, x2)] [] c =
  some (zlor (zlshl x0 5) (zland (zsub x2 96) 31), c) := by rfl
theorem ze_X10_with (d : Nat) (x0 x2 : Int) (c : zC) : zrun zTab (d + 1) 95 [x0, x2] c =
  some (zlor (zlshl x0 5) (zland (zsub x2 96) 31), c) := (zrun_s zt95).trans (zf_X10_with _ _ x0 x2 c)
set_option maxRecDepth 100000 in
theorem zf_X10_lengthOf (call : zCall) (K : zK) (x0 : Int) (c : zC) : zseg zc_X10_lengthOf zk_X10_lengthOf call K 1000 0 [(1, x0), (3, 0), (3, 0), (3, 0), (3, 0)] [] c =
  K 4 [(3, 0), (3, 0), (0, 0), (1, x0), (3, 0)] [] c := by rfl
theorem ze_X10_lengthOf (d : Nat) (x0 : Int) (c : zC) : zrun zTab (d + 1) 96 [x0] c =
  zex zc_X10_lengthOf zk_X10_lengthOf (zrun zTab d) 19999 4 [(3, 0), (3, 0), (0, 0), (1, x0), (3, 0)] [] c := (zrun_s zt96).trans (zf_X10_lengthOf _ _ x0 c)
set_option maxRecDepth 100000 in
theorem zf_X10_lengthOf_4 (call : zCall) (K : zK) (x2 x3 : Int) (c : zC) : zseg zc_X10_lengthOf zk_X10_lengthOf call K 1000 4 [(3, 0), (3, 0), (0, x2), (1, x3), (3, 0)] [] c =
  if (if 0 < x3 then 1 else if x3 = 0 then 0 else -1) = 0 then
    some (x2, c)
  else
    if x2 < 10 then
      K 4 [(3, 0), (3, 0), (0, zw (x2 + 1)), (1, zlushr x3 5), (3, 0)] [] c
    else
      some (x2, c) := by rfl
theorem ze_X10_lengthOf_4 (d F : Nat) (x2 x3 : Int) (c : zC) : zex zc_X10_lengthOf zk_X10_lengthOf (zrun zTab d) (F + 1) 4 [(3, 0), (3, 0), (0, x2), (1, x3), (3, 0)] [] c =
  if (if 0 < x3 then 1 else if x3 = 0 then 0 else -1) = 0 then
    some (x2, c)
  else
    if x2 < 10 then
      zex zc_X10_lengthOf zk_X10_lengthOf (zrun zTab d) F 4 [(3, 0), (3, 0), (0, zw (x2 + 1)), (1, zlushr x3 5), (3, 0)] [] c
    else
      some (x2, c) := zf_X10_lengthOf_4 _ _ x2 x3 c
set_option maxRecDepth 100000 in
theorem zf_X10_letterAt (call : zCall) (K : zK) (x0 x2 x3 : Int) (c : zC) : zseg zc_X10_letterAt zk_X10_letterAt call K 1000 0 [(1, x0), (3, 0), (0, x2), (0, x3)] [] c =
  some (zadd (zl2i (zland (zlushr x0 (zmul 5 (zsub (zsub x3 1) x2))) 31)) 96, c) := by rfl
theorem ze_X10_letterAt (d : Nat) (x0 x2 x3 : Int) (c : zC) : zrun zTab (d + 1) 97 [x0, x2, x3] c =
  some (zadd (zl2i (zland (zlushr x0 (zmul 5 (zsub (zsub x3 1) x2))) 31)) 96, c) := (zrun_s zt97).trans (zf_X10_letterAt _ _ x0 x2 x3 c)
