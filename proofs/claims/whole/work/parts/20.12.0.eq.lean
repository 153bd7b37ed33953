set_option maxRecDepth 100000 in
theorem zf_X12_init (call : zCall) (K : zK) (this : Int) (c : zC) : zseg zc_X12_init zk_X12_init call K 1000 0 [(2, this), (3, 0)] [] c =
  if this = 0 then none else
    if (znew c 100 14820) this (-1) = 12 then
      K 13 [(2, this), (3, 0)] [] (zup (znew c 100 14820) this 0 (c 0 0))
    else none := by rfl
theorem ze_X12_init (d : Nat) (this : Int) (c : zC) : zrun zTab (d + 1) 137 [this] c =
  if this = 0 then none else
    if (znew c 100 14820) this (-1) = 12 then
      zex zc_X12_init zk_X12_init (zrun zTab d) 19999 13 [(2, this), (3, 0)] [] (zup (znew c 100 14820) this 0 (c 0 0))
    else none := (zrun_s zt137).trans (zf_X12_init _ _ this c)
set_option maxRecDepth 100000 in
theorem zf_X12_init_13 (call : zCall) (K : zK) (this : Int) (c : zC) : zseg zc_X12_init zk_X12_init call K 1000 13 [(2, this), (3, 0)] [] c =
  if (znew c 100 80) this (-1) = 12 then
    K 21 [(2, this), (3, 0)] [] (zup (znew c 100 80) this 3 (c 0 0))
  else none := by rfl
theorem ze_X12_init_13 (d F : Nat) (this : Int) (c : zC) : zex zc_X12_init zk_X12_init (zrun zTab d) (F + 1) 13 [(2, this), (3, 0)] [] c =
  if (znew c 100 80) this (-1) = 12 then
    zex zc_X12_init zk_X12_init (zrun zTab d) F 21 [(2, this), (3, 0)] [] (zup (znew c 100 80) this 3 (c 0 0))
  else none := zf_X12_init_13 _ _ this c
set_option maxRecDepth 100000 in
theorem zf_X12_init_21 (call : zCall) (K : zK) (this : Int) (c : zC) : zseg zc_X12_init zk_X12_init call K 1000 21 [(2, this), (3, 0)] [] c =
  if (znew c 100 240) this (-1) = 12 then
    K 30 [(2, this), (3, 0)] [] (zup (znew c 100 240) this 9 (c 0 0))
  else none := by rfl
theorem ze_X12_init_21 (d F : Nat) (this : Int) (c : zC) : zex zc_X12_init zk_X12_init (zrun zTab d) (F + 1) 21 [(2, this), (3, 0)] [] c =
  if (znew c 100 240) this (-1) = 12 then
    zex zc_X12_init zk_X12_init (zrun zTab d) F 30 [(2, this), (3, 0)] [] (zup (znew c 100 240) this 9 (c 0 0))
  else none := zf_X12_init_21 _ _ this c
set_option maxRecDepth 100000 in
theorem zf_X12_init_30 (call : zCall) (K : zK) (this : Int) (c : zC) : zseg zc_X12_init zk_X12_init call K 1000 30 [(2, this), (3, 0)] [] c =
  if (znew c 100 57) this (-1) = 12 then
    K 38 [(2, this), (3, 0)] [] (zup (znew c 100 57) this 11 (c 0 0))
  else none := by rfl
theorem ze_X12_init_30 (d F : Nat) (this : Int) (c : zC) : zex zc_X12_init zk_X12_init (zrun zTab d) (F + 1) 30 [(2, this), (3, 0)] [] c =
  if (znew c 100 57) this (-1) = 12 then
    zex zc_X12_init zk_X12_init (zrun zTab d) F 38 [(2, this), (3, 0)] [] (zup (znew c 100 57) this 11 (c 0 0))
  else none := zf_X12_init_30 _ _ this c
set_option maxRecDepth 100000 in
theorem zf_X12_init_38 (call : zCall) (K : zK) (this : Int) (c : zC) : zseg zc_X12_init zk_X12_init call K 1000 38 [(2, this), (3, 0)] [] c =
  if (znew c 100 20) this (-1) = 12 then
    K 46 [(2, this), (3, 0)] [] (zup (znew c 100 20) this 12 (c 0 0))
  else none := by rfl
theorem ze_X12_init_38 (d F : Nat) (this : Int) (c : zC) : zex zc_X12_init zk_X12_init (zrun zTab d) (F + 1) 38 [(2, this), (3, 0)] [] c =
  if (znew c 100 20) this (-1) = 12 then
    zex zc_X12_init zk_X12_init (zrun zTab d) F 46 [(2, this), (3, 0)] [] (zup (znew c 100 20) this 12 (c 0 0))
  else none := zf_X12_init_38 _ _ this c
set_option maxRecDepth 100000 in
theorem zf_X12_init_46 (call : zCall) (K : zK) (this : Int) (c : zC) : zseg zc_X12_init zk_X12_init call K 1000 46 [(2, this), (3, 0)] [] c =
  if (znew c 100 860) this (-1) = 12 then
    K 55 [(2, this), (3, 0)] [] (zup (znew c 100 860) this 13 (c 0 0))
  else none := by rfl
theorem ze_X12_init_46 (d F : Nat) (this : Int) (c : zC) : zex zc_X12_init zk_X12_init (zrun zTab d) (F + 1) 46 [(2, this), (3, 0)] [] c =
  if (znew c 100 860) this (-1) = 12 then
    zex zc_X12_init zk_X12_init (zrun zTab d) F 55 [(2, this), (3, 0)] [] (zup (znew c 100 860) this 13 (c 0 0))
  else none := zf_X12_init_46 _ _ this c
set_option maxRecDepth 100000 in
theorem zf_X12_init_55 (call : zCall) (K : zK) (this : Int) (c : zC) : zseg zc_X12_init zk_X12_init call K 1000 55 [(2, this), (3, 0)] [] c =
  if (znew c 100 860) this (-1) = 12 then
    K 64 [(2, this), (3, 0)] [] (zup (znew c 100 860) this 14 (c 0 0))
  else none := by rfl
theorem ze_X12_init_55 (d F : Nat) (this : Int) (c : zC) : zex zc_X12_init zk_X12_init (zrun zTab d) (F + 1) 55 [(2, this), (3, 0)] [] c =
  if (znew c 100 860) this (-1) = 12 then
    zex zc_X12_init zk_X12_init (zrun zTab d) F 64 [(2, this), (3, 0)] [] (zup (znew c 100 860) this 14 (c 0 0))
  else none := zf_X12_init_55 _ _ this c
set_option maxRecDepth 100000 in
theorem zf_X12_init_64 (call : zCall) (K : zK) (this : Int) (c : zC) : zseg zc_X12_init zk_X12_init call K 1000 64 [(2, this), (3, 0)] [] c =
  if (znew c 100 8600) this (-1) = 12 then
    K 73 [(2, this), (3, 0)] [] (zup (znew c 100 8600) this 15 (c 0 0))
  else none := by rfl
theorem ze_X12_init_64 (d F : Nat) (this : Int) (c : zC) : zex zc_X12_init zk_X12_init (zrun zTab d) (F + 1) 64 [(2, this), (3, 0)] [] c =
  if (znew c 100 8600) this (-1) = 12 then
    zex zc_X12_init zk_X12_init (zrun zTab d) F 73 [(2, this), (3, 0)] [] (zup (znew c 100 8600) this 15 (c 0 0))
  else none := zf_X12_init_64 _ _ this c
set_option maxRecDepth 100000 in
theorem zf_X12_init_73 (call : zCall) (K : zK) (this : Int) (c : zC) : zseg zc_X12_init zk_X12_init call K 1000 73 [(2, this), (3, 0)] [] c =
  if (znew c 100 10) this (-1) = 12 then
    K 81 [(2, this), (3, 0)] [] (zup (znew c 100 10) this 16 (c 0 0))
  else none := by rfl
theorem ze_X12_init_73 (d F : Nat) (this : Int) (c : zC) : zex zc_X12_init zk_X12_init (zrun zTab d) (F + 1) 73 [(2, this), (3, 0)] [] c =
  if (znew c 100 10) this (-1) = 12 then
    zex zc_X12_init zk_X12_init (zrun zTab d) F 81 [(2, this), (3, 0)] [] (zup (znew c 100 10) this 16 (c 0 0))
  else none := zf_X12_init_73 _ _ this c
set_option maxRecDepth 100000 in
theorem zf_X12_init_81 (call : zCall) (K : zK) (this : Int) (c : zC) : zseg zc_X12_init zk_X12_init call K 1000 81 [(2, this), (3, 0)] [] c =
  if (znew c 100 10) this (-1) = 12 then
    K 89 [(2, this), (3, 0)] [] (zup (znew c 100 10) this 17 (c 0 0))
  else none := by rfl
theorem ze_X12_init_81 (d F : Nat) (this : Int) (c : zC) : zex zc_X12_init zk_X12_init (zrun zTab d) (F + 1) 81 [(2, this), (3, 0)] [] c =
  if (znew c 100 10) this (-1) = 12 then
    zex zc_X12_init zk_X12_init (zrun zTab d) F 89 [(2, this), (3, 0)] [] (zup (znew c 100 10) this 17 (c 0 0))
  else none := zf_X12_init_81 _ _ this c
set_option maxRecDepth 100000 in
theorem zf_X12_init_89 (call : zCall) (K : zK) (this : Int) (c : zC) : zseg zc_X12_init zk_X12_init call K 1000 89 [(2, this), (3, 0)] [] c =
  if (znew c 100 20) this (-1) = 12 then
    K 97 [(2, this), (3, 0)] [] (zup (znew c 100 20) this 18 (c 0 0))
  else none := by rfl
theorem ze_X12_init_89 (d F : Nat) (this : Int) (c : zC) : zex zc_X12_init zk_X12_init (zrun zTab d) (F + 1) 89 [(2, this), (3, 0)] [] c =
  if (znew c 100 20) this (-1) = 12 then
    zex zc_X12_init zk_X12_init (zrun zTab d) F 97 [(2, this), (3, 0)] [] (zup (znew c 100 20) this 18 (c 0 0))
  else none := zf_X12_init_89 _ _ this c
set_option maxRecDepth 100000 in
theorem zf_X12_init_97 (call : zCall) (K : zK) (this : Int) (c : zC) : zseg zc_X12_init zk_X12_init call K 1000 97 [(2, this), (3, 0)] [] c =
  if (znew c 100 20) this (-1) = 12 then
    K 105 [(2, this), (3, 0)] [] (zup (znew c 100 20) this 19 (c 0 0))
  else none := by rfl
theorem ze_X12_init_97 (d F : Nat) (this : Int) (c : zC) : zex zc_X12_init zk_X12_init (zrun zTab d) (F + 1) 97 [(2, this), (3, 0)] [] c =
  if (znew c 100 20) this (-1) = 12 then
    zex zc_X12_init zk_X12_init (zrun zTab d) F 105 [(2, this), (3, 0)] [] (zup (znew c 100 20) this 19 (c 0 0))
  else none := zf_X12_init_97 _ _ this c
set_option maxRecDepth 100000 in
theorem zf_X12_init_105 (call : zCall) (K : zK) (this : Int) (c : zC) : zseg zc_X12_init zk_X12_init call K 1000 105 [(2, this), (3, 0)] [] c =
  if (znew c 100 20) this (-1) = 12 then
    K 113 [(2, this), (3, 0)] [] (zup (znew c 100 20) this 20 (c 0 0))
  else none := by rfl
theorem ze_X12_init_105 (d F : Nat) (this : Int) (c : zC) : zex zc_X12_init zk_X12_init (zrun zTab d) (F + 1) 105 [(2, this), (3, 0)] [] c =
  if (znew c 100 20) this (-1) = 12 then
    zex zc_X12_init zk_X12_init (zrun zTab d) F 113 [(2, this), (3, 0)] [] (zup (znew c 100 20) this 20 (c 0 0))
  else none := zf_X12_init_105 _ _ this c
set_option maxRecDepth 100000 in
theorem zf_X12_init_113 (call : zCall) (K : zK) (this : Int) (c : zC) : zseg zc_X12_init zk_X12_init call K 1000 113 [(2, this), (3, 0)] [] c =
  if (znew c 100 20) this (-1) = 12 then
    K 121 [(2, this), (3, 0)] [] (zup (znew c 100 20) this 21 (c 0 0))
  else none := by rfl
theorem ze_X12_init_113 (d F : Nat) (this : Int) (c : zC) : zex zc_X12_init zk_X12_init (zrun zTab d) (F + 1) 113 [(2, this), (3, 0)] [] c =
  if (znew c 100 20) this (-1) = 12 then
    zex zc_X12_init zk_X12_init (zrun zTab d) F 121 [(2, this), (3, 0)] [] (zup (znew c 100 20) this 21 (c 0 0))
  else none := zf_X12_init_113 _ _ this c
set_option maxRecDepth 100000 in
theorem zf_X12_init_121 (call : zCall) (K : zK) (this : Int) (c : zC) : zseg zc_X12_init zk_X12_init call K 1000 121 [(2, this), (3, 0)] [] c =
  if (znew c 100 20) this (-1) = 12 then
    K 129 [(2, this), (3, 0)] [] (zup (znew c 100 20) this 23 (c 0 0))
  else none := by rfl
theorem ze_X12_init_121 (d F : Nat) (this : Int) (c : zC) : zex zc_X12_init zk_X12_init (zrun zTab d) (F + 1) 121 [(2, this), (3, 0)] [] c =
  if (znew c 100 20) this (-1) = 12 then
    zex zc_X12_init zk_X12_init (zrun zTab d) F 129 [(2, this), (3, 0)] [] (zup (znew c 100 20) this 23 (c 0 0))
  else none := zf_X12_init_121 _ _ this c
set_option maxRecDepth 100000 in
theorem zf_X12_init_129 (call : zCall) (K : zK) (this : Int) (c : zC) : zseg zc_X12_init zk_X12_init call K 1000 129 [(2, this), (3, 0)] [] c =
  if (znew c 100 20) this (-1) = 12 then
    K 137 [(2, this), (3, 0)] [] (zup (znew c 100 20) this 28 (c 0 0))
  else none := by rfl
theorem ze_X12_init_129 (d F : Nat) (this : Int) (c : zC) : zex zc_X12_init zk_X12_init (zrun zTab d) (F + 1) 129 [(2, this), (3, 0)] [] c =
  if (znew c 100 20) this (-1) = 12 then
    zex zc_X12_init zk_X12_init (zrun zTab d) F 137 [(2, this), (3, 0)] [] (zup (znew c 100 20) this 28 (c 0 0))
  else none := zf_X12_init_129 _ _ this c
set_option maxRecDepth 100000 in
theorem zf_X12_init_137 (call : zCall) (K : zK) (this : Int) (c : zC) : zseg zc_X12_init zk_X12_init call K 1000 137 [(2, this), (3, 0)] [] c =
  K 139 [(2, this), (0, 0)] [] c := by rfl
theorem ze_X12_init_137 (d F : Nat) (this : Int) (c : zC) : zex zc_X12_init zk_X12_init (zrun zTab d) (F + 1) 137 [(2, this), (3, 0)] [] c =
  zex zc_X12_init zk_X12_init (zrun zTab d) F 139 [(2, this), (0, 0)] [] c := zf_X12_init_137 _ _ this c
set_option maxRecDepth 100000 in
theorem zf_X12_init_139 (call : zCall) (K : zK) (this x1 : Int) (c : zC) : zseg zc_X12_init zk_X12_init call K 1000 139 [(2, this), (0, x1)] [] c =
  if x1 < 4 then
    if c this (-1) = 12 then
      if c (c this 0) (-1) = 100 ∧ (0 : Int) ≤ (zadd (zmul 242 x1) 1) ∧ (zadd (zmul 242 x1) 1) < c (c this 0) (-2) then
        K 139 [(2, this), (0, zw (x1 + 1))] [] (zup c (c this 0) (zadd (zmul 242 x1) 1) 20)
      else none
    else none
  else
    if c this (-1) = 12 then
      if c (c this 0) (-1) = 100 ∧ (0 : Int) ≤ 1480 ∧ 1480 < c (c this 0) (-2) then
        some (0, zup c (c this 0) 1480 3)
      else none
    else none := by rfl
theorem ze_X12_init_139 (d F : Nat) (this x1 : Int) (c : zC) : zex zc_X12_init zk_X12_init (zrun zTab d) (F + 1) 139 [(2, this), (0, x1)] [] c =
  if x1 < 4 then
    if c this (-1) = 12 then
      if c (c this 0) (-1) = 100 ∧ (0 : Int) ≤ (zadd (zmul 242 x1) 1) ∧ (zadd (zmul 242 x1) 1) < c (c this 0) (-2) then
        zex zc_X12_init zk_X12_init (zrun zTab d) F 139 [(2, this), (0, zw (x1 + 1))] [] (zup c (c this 0) (zadd (zmul 242 x1) 1) 20)
      else none
    else none
  else
    if c this (-1) = 12 then
      if c (c this 0) (-1) = 100 ∧ (0 : Int) ≤ 1480 ∧ 1480 < c (c this 0) (-2) then
        some (0, zup c (c this 0) 1480 3)
      else none
    else none := zf_X12_init_139 _ _ this x1 c
set_option maxRecDepth 100000 in
theorem zf_X12_in (call : zCall) (K : zK) (x0 x1 x2 : Int) (c : zC) : zseg zc_X12_in zk_X12_in call K 1000 0 [(0, x0), (0, x1), (0, x2)] [] c =
  if x0 < x1 then
    some (0, c)
  else
    if x0 ≤ x2 then
      some (1, c)
    else
      some (0, c) := by rfl
theorem ze_X12_in (d : Nat) (x0 x1 x2 : Int) (c : zC) : zrun zTab (d + 1) 138 [x0, x1, x2] c =
  if x0 < x1 then
    some (0, c)
  else
    if x0 ≤ x2 then
      some (1, c)
    else
      some (0, c) := (zrun_s zt138).trans (zf_X12_in _ _ x0 x1 x2 c)
set_option maxRecDepth 100000 in
theorem zf_X12_copies (call : zCall) (K : zK) (this x1 x2 : Int) (c : zC) : zseg zc_X12_copies zk_X12_copies call K 1000 0 [(2, this), (0, x1), (0, x2), (3, 0)] [] c =
  K 2 [(2, this), (0, x1), (0, x2), (0, 0)] [] c := by rfl
theorem ze_X12_copies (d : Nat) (this x1 x2 : Int) (c : zC) : zrun zTab (d + 1) 139 [this, x1, x2] c =
  zex zc_X12_copies zk_X12_copies (zrun zTab d) 19999 2 [(2, this), (0, x1), (0, x2), (0, 0)] [] c := (zrun_s zt139).trans (zf_X12_copies _ _ this x1 x2 c)
set_option maxRecDepth 100000 in
theorem zf_X12_copies_2 (call : zCall) (K : zK) (this x1 x2 x3 : Int) (c : zC) : zseg zc_X12_copies zk_X12_copies call K 1000 2 [(2, this), (0, x1), (0, x2), (0, x3)] [] c =
  if x3 < 1482 then
    if c this (-1) = 12 then
      if c this (-1) = 12 then
        if c (c this 0) (-1) = 100 ∧ (0 : Int) ≤ (zadd (zmul 1482 x1) x3) ∧ (zadd (zmul 1482 x1) x3) < c (c this 0) (-2) then
          if c (c this 0) (-1) = 100 ∧ (0 : Int) ≤ (zadd (zmul 1482 x2) x3) ∧ (zadd (zmul 1482 x2) x3) < c (c this 0) (-2) then
            K 2 [(2, this), (0, x1), (0, x2), (0, zw (x3 + 1))] [] (zup c (c this 0) (zadd (zmul 1482 x2) x3) (c (c this 0) (zadd (zmul 1482 x1) x3)))
          else none
        else none
      else none
    else none
  else
    some (0, c) := by rfl
theorem ze_X12_copies_2 (d F : Nat) (this x1 x2 x3 : Int) (c : zC) : zex zc_X12_copies zk_X12_copies (zrun zTab d) (F + 1) 2 [(2, this), (0, x1), (0, x2), (0, x3)] [] c =
  if x3 < 1482 then
    if c this (-1) = 12 then
      if c this (-1) = 12 then
        if c (c this 0) (-1) = 100 ∧ (0 : Int) ≤ (zadd (zmul 1482 x1) x3) ∧ (zadd (zmul 1482 x1) x3) < c (c this 0) (-2) then
          if c (c this 0) (-1) = 100 ∧ (0 : Int) ≤ (zadd (zmul 1482 x2) x3) ∧ (zadd (zmul 1482 x2) x3) < c (c this 0) (-2) then
            zex zc_X12_copies zk_X12_copies (zrun zTab d) F 2 [(2, this), (0, x1), (0, x2), (0, zw (x3 + 1))] [] (zup c (c this 0) (zadd (zmul 1482 x2) x3) (c (c this 0) (zadd (zmul 1482 x1) x3)))
          else none
        else none
      else none
    else none
  else
    some (0, c) := zf_X12_copies_2 _ _ this x1 x2 x3 c
set_option maxRecDepth 100000 in
theorem zf_X12_keeps (call : zCall) (K : zK) (this : Int) (c : zC) : zseg zc_X12_keeps zk_X12_keeps call K 1000 0 [(2, this), (3, 0)] [] c =
  if c this (-1) = 12 then
    if (c this 1) = 8 then
      K 11 [(2, this), (0, 1)] [] c
    else
      if c this (-1) = 12 then
        if c this (-1) = 12 then
          if (zup c this 1 (zadd (c this 1) 1)) this (-1) = 12 then
            if (zup c this 1 (zadd (c this 1) 1)) this (-1) = 12 then
              zbnd (call 139 [this, 0, (zup c this 1 (zadd (c this 1) 1)) this 1] (zup c this 1 (zadd (c this 1) 1))) (fun _ c2 =>
                some (0, c2))
            else none
          else none
        else none
      else none
  else none := by rfl
theorem ze_X12_keeps (d : Nat) (this : Int) (c : zC) : zrun zTab (d + 1) 140 [this] c =
  if c this (-1) = 12 then
    if (c this 1) = 8 then
      zex zc_X12_keeps zk_X12_keeps (zrun zTab d) 19999 11 [(2, this), (0, 1)] [] c
    else
      if c this (-1) = 12 then
        if c this (-1) = 12 then
          if (zup c this 1 (zadd (c this 1) 1)) this (-1) = 12 then
            if (zup c this 1 (zadd (c this 1) 1)) this (-1) = 12 then
              zbnd (zrun zTab d 139 [this, 0, (zup c this 1 (zadd (c this 1) 1)) this 1] (zup c this 1 (zadd (c this 1) 1))) (fun _ c2 =>
                some (0, c2))
            else none
          else none
        else none
      else none
  else none := (zrun_s zt140).trans (zf_X12_keeps _ _ this c)
set_option maxRecDepth 100000 in
theorem zf_X12_keeps_11 (call : zCall) (K : zK) (this x1 : Int) (c : zC) : zseg zc_X12_keeps zk_X12_keeps call K 1000 11 [(2, this), (0, x1)] [] c =
  if x1 < 8 then
    if c this (-1) = 12 then
      zbnd (call 139 [this, zadd x1 1, x1] c) (fun _ c2 =>
        K 11 [(2, this), (0, zw (x1 + 1))] [] c2)
    else none
  else
    if c this (-1) = 12 then
      if c this (-1) = 12 then
        if (zup c this 1 (zsub (c this 1) 1)) this (-1) = 12 then
          if (zup c this 1 (zsub (c this 1) 1)) this (-1) = 12 then
            if (zup (zup c this 1 (zsub (c this 1) 1)) this 1 (zadd ((zup c this 1 (zsub (c this 1) 1)) this 1) 1)) this (-1) = 12 then
              if (zup (zup c this 1 (zsub (c this 1) 1)) this 1 (zadd ((zup c this 1 (zsub (c this 1) 1)) this 1) 1)) this (-1) = 12 then
                zbnd (call 139 [this, 0, (zup (zup c this 1 (zsub (c this 1) 1)) this 1 (zadd ((zup c this 1 (zsub (c this 1) 1)) this 1) 1)) this 1] (zup (zup c this 1 (zsub (c this 1) 1)) this 1 (zadd ((zup c this 1 (zsub (c this 1) 1)) this 1) 1))) (fun _ c4 =>
                  some (0, c4))
              else none
            else none
          else none
        else none
      else none
    else none := by rfl
theorem ze_X12_keeps_11 (d F : Nat) (this x1 : Int) (c : zC) : zex zc_X12_keeps zk_X12_keeps (zrun zTab d) (F + 1) 11 [(2, this), (0, x1)] [] c =
  if x1 < 8 then
    if c this (-1) = 12 then
      zbnd (zrun zTab d 139 [this, zadd x1 1, x1] c) (fun _ c2 =>
        zex zc_X12_keeps zk_X12_keeps (zrun zTab d) F 11 [(2, this), (0, zw (x1 + 1))] [] c2)
    else none
  else
    if c this (-1) = 12 then
      if c this (-1) = 12 then
        if (zup c this 1 (zsub (c this 1) 1)) this (-1) = 12 then
          if (zup c this 1 (zsub (c this 1) 1)) this (-1) = 12 then
            if (zup (zup c this 1 (zsub (c this 1) 1)) this 1 (zadd ((zup c this 1 (zsub (c this 1) 1)) this 1) 1)) this (-1) = 12 then
              if (zup (zup c this 1 (zsub (c this 1) 1)) this 1 (zadd ((zup c this 1 (zsub (c this 1) 1)) this 1) 1)) this (-1) = 12 then
                zbnd (zrun zTab d 139 [this, 0, (zup (zup c this 1 (zsub (c this 1) 1)) this 1 (zadd ((zup c this 1 (zsub (c this 1) 1)) this 1) 1)) this 1] (zup (zup c this 1 (zsub (c this 1) 1)) this 1 (zadd ((zup c this 1 (zsub (c this 1) 1)) this 1) 1))) (fun _ c4 =>
                  some (0, c4))
              else none
            else none
          else none
        else none
      else none
    else none := zf_X12_keeps_11 _ _ this x1 c
set_option maxRecDepth 100000 in
theorem zf_X12_isPage (call : zCall) (K : zK) (x0 : Int) (c : zC) : zseg zc_X12_isPage zk_X12_isPage call K 1000 0 [(0, x0)] [] c =
  zbnd (call 138 [x0, 0, 3] c) (fun v1 c2 =>
    if v1 = 0 ∨ v1 = 1 then some (v1, c2) else none) := by rfl
theorem ze_X12_isPage (d : Nat) (x0 : Int) (c : zC) : zrun zTab (d + 1) 141 [x0] c =
  zbnd (zrun zTab d 138 [x0, 0, 3] c) (fun v1 c2 =>
    if v1 = 0 ∨ v1 = 1 then some (v1, c2) else none) := (zrun_s zt141).trans (zf_X12_isPage _ _ x0 c)
set_option maxRecDepth 100000 in
theorem zf_X12_words (call : zCall) (K : zK) (this x1 : Int) (c : zC) : zseg zc_X12_words zk_X12_words call K 1000 0 [(2, this), (0, x1)] [] c =
  if c this (-1) = 12 then
    if c (c this 0) (-1) = 100 ∧ (0 : Int) ≤ (zmul 242 x1) ∧ (zmul 242 x1) < c (c this 0) (-2) then
      some (c (c this 0) (zmul 242 x1), c)
    else none
  else none := by rfl
theorem ze_X12_words (d : Nat) (this x1 : Int) (c : zC) : zrun zTab (d + 1) 142 [this, x1] c =
  if c this (-1) = 12 then
    if c (c this 0) (-1) = 100 ∧ (0 : Int) ≤ (zmul 242 x1) ∧ (zmul 242 x1) < c (c this 0) (-2) then
      some (c (c this 0) (zmul 242 x1), c)
    else none
  else none := (zrun_s zt142).trans (zf_X12_words _ _ this x1 c)
set_option maxRecDepth 100000 in
theorem zf_X12_budgetOf (call : zCall) (K : zK) (this x1 : Int) (c : zC) : zseg zc_X12_budgetOf zk_X12_budgetOf call K 1000 0 [(2, this), (0, x1)] [] c =
  if c this (-1) = 12 then
    if c (c this 0) (-1) = 100 ∧ (0 : Int) ≤ (zadd (zmul 242 x1) 1) ∧ (zadd (zmul 242 x1) 1) < c (c this 0) (-2) then
      some (c (c this 0) (zadd (zmul 242 x1) 1), c)
    else none
  else none := by rfl
theorem ze_X12_budgetOf (d : Nat) (this x1 : Int) (c : zC) : zrun zTab (d + 1) 143 [this, x1] c =
  if c this (-1) = 12 then
    if c (c this 0) (-1) = 100 ∧ (0 : Int) ≤ (zadd (zmul 242 x1) 1) ∧ (zadd (zmul 242 x1) 1) < c (c this 0) (-2) then
      some (c (c this 0) (zadd (zmul 242 x1) 1), c)
    else none
  else none := (zrun_s zt143).trans (zf_X12_budgetOf _ _ this x1 c)
set_option maxRecDepth 100000 in
theorem zf_X12_wordAt (call : zCall) (K : zK) (x0 x1 : Int) (c : zC) : zseg zc_X12_wordAt zk_X12_wordAt call K 1000 0 [(0, x0), (0, x1)] [] c =
  some (zadd (zadd (zmul 242 x0) 2) (zmul 12 x1), c) := by rfl
theorem ze_X12_wordAt (d : Nat) (x0 x1 : Int) (c : zC) : zrun zTab (d + 1) 144 [x0, x1] c =
  some (zadd (zadd (zmul 242 x0) 2) (zmul 12 x1), c) := (zrun_s zt144).trans (zf_X12_wordAt _ _ x0 x1 c)
set_option maxRecDepth 100000 in
theorem zf_X12_isWord (call : zCall) (K : zK) (this x1 x2 : Int) (c : zC) : zseg zc_X12_isWord zk_X12_isWord call K 1000 0 [(2, this), (0, x1), (0, x2)] [] c =
  zbnd (call 141 [x1] c) (fun v1 c2 =>
    if v1 = 0 then
      some (0, c2)
    else
      if c2 this (-1) = 12 then
        zbnd (call 142 [this, x1] c2) (fun v3 c4 =>
          zbnd (call 138 [x2, 0, zsub v3 1] c4) (fun v5 c6 =>
            if v5 = 0 then
              some (0, c6)
            else
              some (1, c6)))
      else none) := by rfl
theorem ze_X12_isWord (d : Nat) (this x1 x2 : Int) (c : zC) : zrun zTab (d + 1) 145 [this, x1, x2] c =
  zbnd (zrun zTab d 141 [x1] c) (fun v1 c2 =>
    if v1 = 0 then
      some (0, c2)
    else
      if c2 this (-1) = 12 then
        zbnd (zrun zTab d 142 [this, x1] c2) (fun v3 c4 =>
          zbnd (zrun zTab d 138 [x2, 0, zsub v3 1] c4) (fun v5 c6 =>
            if v5 = 0 then
              some (0, c6)
            else
              some (1, c6)))
      else none) := (zrun_s zt145).trans (zf_X12_isWord _ _ this x1 x2 c)
set_option maxRecDepth 100000 in
theorem zf_X12_sectionOf (call : zCall) (K : zK) (this x1 x2 : Int) (c : zC) : zseg zc_X12_sectionOf zk_X12_sectionOf call K 1000 0 [(2, this), (0, x1), (0, x2)] [] c =
  if c this (-1) = 12 then
    zbnd (call 144 [x1, x2] c) (fun v1 c2 =>
      if c2 (c this 0) (-1) = 100 ∧ (0 : Int) ≤ v1 ∧ v1 < c2 (c this 0) (-2) then
        some (c2 (c this 0) v1, c2)
      else none)
  else none := by rfl
theorem ze_X12_sectionOf (d : Nat) (this x1 x2 : Int) (c : zC) : zrun zTab (d + 1) 146 [this, x1, x2] c =
  if c this (-1) = 12 then
    zbnd (zrun zTab d 144 [x1, x2] c) (fun v1 c2 =>
      if c2 (c this 0) (-1) = 100 ∧ (0 : Int) ≤ v1 ∧ v1 < c2 (c this 0) (-2) then
        some (c2 (c this 0) v1, c2)
      else none)
  else none := (zrun_s zt146).trans (zf_X12_sectionOf _ _ this x1 x2 c)
set_option maxRecDepth 100000 in
theorem zf_X12_sections (call : zCall) (K : zK) (this x1 : Int) (c : zC) : zseg zc_X12_sections zk_X12_sections call K 1000 0 [(2, this), (0, x1)] [] c =
  if c this (-1) = 12 then
    zbnd (call 142 [this, x1] c) (fun v1 c2 =>
      if v1 = 0 then
        some (0, c2)
      else
        if c2 this (-1) = 12 then
          zbnd (call 142 [this, x1] c2) (fun v3 c4 =>
            if c4 this (-1) = 12 then
              zbnd (call 146 [this, x1, zsub v3 1] c4) (fun v5 c6 =>
                some (zadd v5 1, c6))
            else none)
        else none)
  else none := by rfl
theorem ze_X12_sections (d : Nat) (this x1 : Int) (c : zC) : zrun zTab (d + 1) 147 [this, x1] c =
  if c this (-1) = 12 then
    zbnd (zrun zTab d 142 [this, x1] c) (fun v1 c2 =>
      if v1 = 0 then
        some (0, c2)
      else
        if c2 this (-1) = 12 then
          zbnd (zrun zTab d 142 [this, x1] c2) (fun v3 c4 =>
            if c4 this (-1) = 12 then
              zbnd (zrun zTab d 146 [this, x1, zsub v3 1] c4) (fun v5 c6 =>
                some (zadd v5 1, c6))
            else none)
        else none)
  else none := (zrun_s zt147).trans (zf_X12_sections _ _ this x1 c)
set_option maxRecDepth 100000 in
theorem zf_X12_rules (call : zCall) (K : zK) (this : Int) (c : zC) : zseg zc_X12_rules zk_X12_rules call K 1000 0 [(2, this)] [] c =
  if c this (-1) = 12 then
    if c (c this 0) (-1) = 100 ∧ (0 : Int) ≤ 968 ∧ 968 < c (c this 0) (-2) then
      some (c (c this 0) 968, c)
    else none
  else none := by rfl
theorem ze_X12_rules (d : Nat) (this : Int) (c : zC) : zrun zTab (d + 1) 148 [this] c =
  if c this (-1) = 12 then
    if c (c this 0) (-1) = 100 ∧ (0 : Int) ≤ 968 ∧ 968 < c (c this 0) (-2) then
      some (c (c this 0) 968, c)
    else none
  else none := (zrun_s zt148).trans (zf_X12_rules _ _ this c)
set_option maxRecDepth 100000 in
theorem zf_X12_senses (call : zCall) (K : zK) (this : Int) (c : zC) : zseg zc_X12_senses zk_X12_senses call K 1000 0 [(2, this)] [] c =
  if c this (-1) = 12 then
    if c (c this 0) (-1) = 100 ∧ (0 : Int) ≤ 1023 ∧ 1023 < c (c this 0) (-2) then
      some (c (c this 0) 1023, c)
    else none
  else none := by rfl
theorem ze_X12_senses (d : Nat) (this : Int) (c : zC) : zrun zTab (d + 1) 149 [this] c =
  if c this (-1) = 12 then
    if c (c this 0) (-1) = 100 ∧ (0 : Int) ≤ 1023 ∧ 1023 < c (c this 0) (-2) then
      some (c (c this 0) 1023, c)
    else none
  else none := (zrun_s zt149).trans (zf_X12_senses _ _ this c)
set_option maxRecDepth 100000 in
theorem zf_X12_ruleAt (call : zCall) (K : zK) (x0 : Int) (c : zC) : zseg zc_X12_ruleAt zk_X12_ruleAt call K 1000 0 [(0, x0)] [] c =
  some (zadd 969 (zmul 9 x0), c) := by rfl
theorem ze_X12_ruleAt (d : Nat) (x0 : Int) (c : zC) : zrun zTab (d + 1) 150 [x0] c =
  some (zadd 969 (zmul 9 x0), c) := (zrun_s zt150).trans (zf_X12_ruleAt _ _ x0 c)
set_option maxRecDepth 100000 in
theorem zf_X12_senseAt (call : zCall) (K : zK) (x0 : Int) (c : zC) : zseg zc_X12_senseAt zk_X12_senseAt call K 1000 0 [(0, x0)] [] c =
  some (zadd 1024 (zmul 57 x0), c) := by rfl
theorem ze_X12_senseAt (d : Nat) (x0 : Int) (c : zC) : zrun zTab (d + 1) 151 [x0] c =
  some (zadd 1024 (zmul 57 x0), c) := (zrun_s zt151).trans (zf_X12_senseAt _ _ x0 c)
set_option maxRecDepth 100000 in
theorem zf_X12_hints (call : zCall) (K : zK) (this x1 : Int) (c : zC) : zseg zc_X12_hints zk_X12_hints call K 1000 0 [(2, this), (0, x1)] [] c =
  if c this (-1) = 12 then
    zbnd (call 151 [x1] c) (fun v1 c2 =>
      if c2 (c this 0) (-1) = 100 ∧ (0 : Int) ≤ (zadd v1 11) ∧ (zadd v1 11) < c2 (c this 0) (-2) then
        some (c2 (c this 0) (zadd v1 11), c2)
      else none)
  else none := by rfl
theorem ze_X12_hints (d : Nat) (this x1 : Int) (c : zC) : zrun zTab (d + 1) 152 [this, x1] c =
  if c this (-1) = 12 then
    zbnd (zrun zTab d 151 [x1] c) (fun v1 c2 =>
      if c2 (c this 0) (-1) = 100 ∧ (0 : Int) ≤ (zadd v1 11) ∧ (zadd v1 11) < c2 (c this 0) (-2) then
        some (c2 (c this 0) (zadd v1 11), c2)
      else none)
  else none := (zrun_s zt152).trans (zf_X12_hints _ _ this x1 c)
set_option maxRecDepth 100000 in
theorem zf_X12_hintAt (call : zCall) (K : zK) (x0 x1 : Int) (c : zC) : zseg zc_X12_hintAt zk_X12_hintAt call K 1000 0 [(0, x0), (0, x1)] [] c =
  zbnd (call 151 [x0] c) (fun v1 c2 =>
    some (zadd (zadd v1 12) (zmul 11 x1), c2)) := by rfl
theorem ze_X12_hintAt (d : Nat) (x0 x1 : Int) (c : zC) : zrun zTab (d + 1) 153 [x0, x1] c =
  zbnd (zrun zTab d 151 [x0] c) (fun v1 c2 =>
    some (zadd (zadd v1 12) (zmul 11 x1), c2)) := (zrun_s zt153).trans (zf_X12_hintAt _ _ x0 x1 c)
set_option maxRecDepth 100000 in
theorem zf_X12_own (call : zCall) (K : zK) (this x1 : Int) (c : zC) : zseg zc_X12_own zk_X12_own call K 1000 0 [(2, this), (0, x1)] [] c =
  if c this (-1) = 12 then
    zbnd (call 151 [x1] c) (fun v1 c2 =>
      if c2 (c this 0) (-1) = 100 ∧ (0 : Int) ≤ (zadd v1 56) ∧ (zadd v1 56) < c2 (c this 0) (-2) then
        some (c2 (c this 0) (zadd v1 56), c2)
      else none)
  else none := by rfl
theorem ze_X12_own (d : Nat) (this x1 : Int) (c : zC) : zrun zTab (d + 1) 154 [this, x1] c =
  if c this (-1) = 12 then
    zbnd (zrun zTab d 151 [x1] c) (fun v1 c2 =>
      if c2 (c this 0) (-1) = 100 ∧ (0 : Int) ≤ (zadd v1 56) ∧ (zadd v1 56) < c2 (c this 0) (-2) then
        some (c2 (c this 0) (zadd v1 56), c2)
      else none)
  else none := (zrun_s zt154).trans (zf_X12_own _ _ this x1 c)
set_option maxRecDepth 100000 in
theorem zf_X12_feed (call : zCall) (K : zK) (this x1 x2 x3 x4 x5 x6 : Int) (c : zC) : zseg zc_X12_feed zk_X12_feed call K 1000 0 [(2, this), (0, x1), (0, x2), (0, x3), (0, x4), (0, x5), (0, x6), (3, 0)] [] c =
  zbnd (call 138 [x1, 1, 5] c) (fun v1 c2 =>
    if v1 = 0 then
      some ((-2), c2)
    else
      zbnd (call 138 [x2, 0, 127] c2) (fun v3 c4 =>
        if v3 = 0 then
          some ((-2), c4)
        else
          zbnd (call 138 [x3, 0, 127] c4) (fun v5 c6 =>
            if v5 = 0 then
              some ((-2), c6)
            else
              zbnd (call 138 [x4, 0, 127] c6) (fun v7 c8 =>
                if v7 = 0 then
                  some ((-2), c8)
                else
                  zbnd (call 138 [x5, 0, 127] c8) (fun v9 c10 =>
                    if v9 = 0 then
                      some ((-2), c10)
                    else
                      zbnd (call 138 [x6, 0, 127] c10) (fun v11 c12 =>
                        if v11 = 0 then
                          some ((-2), c12)
                        else
                          if c12 this (-1) = 12 then
                            if (zadd (c12 this 4) x1) ≤ 80 then
                              K 82 [(2, this), (0, x1), (0, x2), (0, x3), (0, x4), (0, x5), (0, x6), (0, 0)] [] c12
                            else
                              some ((-4), c12)
                          else none)))))) := by rfl
theorem ze_X12_feed (d : Nat) (this x1 x2 x3 x4 x5 x6 : Int) (c : zC) : zrun zTab (d + 1) 155 [this, x1, x2, x3, x4, x5, x6] c =
  zbnd (zrun zTab d 138 [x1, 1, 5] c) (fun v1 c2 =>
    if v1 = 0 then
      some ((-2), c2)
    else
      zbnd (zrun zTab d 138 [x2, 0, 127] c2) (fun v3 c4 =>
        if v3 = 0 then
          some ((-2), c4)
        else
          zbnd (zrun zTab d 138 [x3, 0, 127] c4) (fun v5 c6 =>
            if v5 = 0 then
              some ((-2), c6)
            else
              zbnd (zrun zTab d 138 [x4, 0, 127] c6) (fun v7 c8 =>
                if v7 = 0 then
                  some ((-2), c8)
                else
                  zbnd (zrun zTab d 138 [x5, 0, 127] c8) (fun v9 c10 =>
                    if v9 = 0 then
                      some ((-2), c10)
                    else
                      zbnd (zrun zTab d 138 [x6, 0, 127] c10) (fun v11 c12 =>
                        if v11 = 0 then
                          some ((-2), c12)
                        else
                          if c12 this (-1) = 12 then
                            if (zadd (c12 this 4) x1) ≤ 80 then
                              zex zc_X12_feed zk_X12_feed (zrun zTab d) 19999 82 [(2, this), (0, x1), (0, x2), (0, x3), (0, x4), (0, x5), (0, x6), (0, 0)] [] c12
                            else
                              some ((-4), c12)
                          else none)))))) := (zrun_s zt155).trans (zf_X12_feed _ _ this x1 x2 x3 x4 x5 x6 c)
set_option maxRecDepth 100000 in
theorem zf_X12_feed_82 (call : zCall) (K : zK) (this x1 x2 x3 x4 x5 x6 x7 : Int) (c : zC) : zseg zc_X12_feed zk_X12_feed call K 1000 82 [(2, this), (0, x1), (0, x2), (0, x3), (0, x4), (0, x5), (0, x6), (0, x7)] [] c =
  if x7 < x1 then
    if c this (-1) = 12 then
      if c this (-1) = 12 then
        if x7 = 0 then
          if c (c this 3) (-1) = 100 ∧ (0 : Int) ≤ (c this 4) ∧ (c this 4) < c (c this 3) (-2) then
            if (zup c (c this 3) (c this 4) x2) this (-1) = 12 then
              if (zup c (c this 3) (c this 4) x2) this (-1) = 12 then
                K 82 [(2, this), (0, x1), (0, x2), (0, x3), (0, x4), (0, x5), (0, x6), (0, zw (x7 + 1))] [] (zup (zup c (c this 3) (c this 4) x2) this 4 (zadd ((zup c (c this 3) (c this 4) x2) this 4) 1))
              else none
            else none
          else none
        else
          if x7 = 1 then
            if c (c this 3) (-1) = 100 ∧ (0 : Int) ≤ (c this 4) ∧ (c this 4) < c (c this 3) (-2) then
              if (zup c (c this 3) (c this 4) x3) this (-1) = 12 then
                if (zup c (c this 3) (c this 4) x3) this (-1) = 12 then
                  K 82 [(2, this), (0, x1), (0, x2), (0, x3), (0, x4), (0, x5), (0, x6), (0, zw (x7 + 1))] [] (zup (zup c (c this 3) (c this 4) x3) this 4 (zadd ((zup c (c this 3) (c this 4) x3) this 4) 1))
                else none
              else none
            else none
          else
            if x7 = 2 then
              if c (c this 3) (-1) = 100 ∧ (0 : Int) ≤ (c this 4) ∧ (c this 4) < c (c this 3) (-2) then
                if (zup c (c this 3) (c this 4) x4) this (-1) = 12 then
                  if (zup c (c this 3) (c this 4) x4) this (-1) = 12 then
                    K 82 [(2, this), (0, x1), (0, x2), (0, x3), (0, x4), (0, x5), (0, x6), (0, zw (x7 + 1))] [] (zup (zup c (c this 3) (c this 4) x4) this 4 (zadd ((zup c (c this 3) (c this 4) x4) this 4) 1))
                  else none
                else none
              else none
            else
              if x7 = 3 then
                if c (c this 3) (-1) = 100 ∧ (0 : Int) ≤ (c this 4) ∧ (c this 4) < c (c this 3) (-2) then
                  if (zup c (c this 3) (c this 4) x5) this (-1) = 12 then
                    if (zup c (c this 3) (c this 4) x5) this (-1) = 12 then
                      K 82 [(2, this), (0, x1), (0, x2), (0, x3), (0, x4), (0, x5), (0, x6), (0, zw (x7 + 1))] [] (zup (zup c (c this 3) (c this 4) x5) this 4 (zadd ((zup c (c this 3) (c this 4) x5) this 4) 1))
                    else none
                  else none
                else none
              else
                if c (c this 3) (-1) = 100 ∧ (0 : Int) ≤ (c this 4) ∧ (c this 4) < c (c this 3) (-2) then
                  if (zup c (c this 3) (c this 4) x6) this (-1) = 12 then
                    if (zup c (c this 3) (c this 4) x6) this (-1) = 12 then
                      K 82 [(2, this), (0, x1), (0, x2), (0, x3), (0, x4), (0, x5), (0, x6), (0, zw (x7 + 1))] [] (zup (zup c (c this 3) (c this 4) x6) this 4 (zadd ((zup c (c this 3) (c this 4) x6) this 4) 1))
                    else none
                  else none
                else none
      else none
    else none
  else
    if c this (-1) = 12 then
      some (c this 4, c)
    else none := by rfl
theorem ze_X12_feed_82 (d F : Nat) (this x1 x2 x3 x4 x5 x6 x7 : Int) (c : zC) : zex zc_X12_feed zk_X12_feed (zrun zTab d) (F + 1) 82 [(2, this), (0, x1), (0, x2), (0, x3), (0, x4), (0, x5), (0, x6), (0, x7)] [] c =
  if x7 < x1 then
    if c this (-1) = 12 then
      if c this (-1) = 12 then
        if x7 = 0 then
          if c (c this 3) (-1) = 100 ∧ (0 : Int) ≤ (c this 4) ∧ (c this 4) < c (c this 3) (-2) then
            if (zup c (c this 3) (c this 4) x2) this (-1) = 12 then
              if (zup c (c this 3) (c this 4) x2) this (-1) = 12 then
                zex zc_X12_feed zk_X12_feed (zrun zTab d) F 82 [(2, this), (0, x1), (0, x2), (0, x3), (0, x4), (0, x5), (0, x6), (0, zw (x7 + 1))] [] (zup (zup c (c this 3) (c this 4) x2) this 4 (zadd ((zup c (c this 3) (c this 4) x2) this 4) 1))
              else none
            else none
          else none
        else
          if x7 = 1 then
            if c (c this 3) (-1) = 100 ∧ (0 : Int) ≤ (c this 4) ∧ (c this 4) < c (c this 3) (-2) then
              if (zup c (c this 3) (c this 4) x3) this (-1) = 12 then
                if (zup c (c this 3) (c this 4) x3) this (-1) = 12 then
                  zex zc_X12_feed zk_X12_feed (zrun zTab d) F 82 [(2, this), (0, x1), (0, x2), (0, x3), (0, x4), (0, x5), (0, x6), (0, zw (x7 + 1))] [] (zup (zup c (c this 3) (c this 4) x3) this 4 (zadd ((zup c (c this 3) (c this 4) x3) this 4) 1))
                else none
              else none
            else none
          else
            if x7 = 2 then
              if c (c this 3) (-1) = 100 ∧ (0 : Int) ≤ (c this 4) ∧ (c this 4) < c (c this 3) (-2) then
                if (zup c (c this 3) (c this 4) x4) this (-1) = 12 then
                  if (zup c (c this 3) (c this 4) x4) this (-1) = 12 then
                    zex zc_X12_feed zk_X12_feed (zrun zTab d) F 82 [(2, this), (0, x1), (0, x2), (0, x3), (0, x4), (0, x5), (0, x6), (0, zw (x7 + 1))] [] (zup (zup c (c this 3) (c this 4) x4) this 4 (zadd ((zup c (c this 3) (c this 4) x4) this 4) 1))
                  else none
                else none
              else none
            else
              if x7 = 3 then
                if c (c this 3) (-1) = 100 ∧ (0 : Int) ≤ (c this 4) ∧ (c this 4) < c (c this 3) (-2) then
                  if (zup c (c this 3) (c this 4) x5) this (-1) = 12 then
                    if (zup c (c this 3) (c this 4) x5) this (-1) = 12 then
                      zex zc_X12_feed zk_X12_feed (zrun zTab d) F 82 [(2, this), (0, x1), (0, x2), (0, x3), (0, x4), (0, x5), (0, x6), (0, zw (x7 + 1))] [] (zup (zup c (c this 3) (c this 4) x5) this 4 (zadd ((zup c (c this 3) (c this 4) x5) this 4) 1))
                    else none
                  else none
                else none
              else
                if c (c this 3) (-1) = 100 ∧ (0 : Int) ≤ (c this 4) ∧ (c this 4) < c (c this 3) (-2) then
                  if (zup c (c this 3) (c this 4) x6) this (-1) = 12 then
                    if (zup c (c this 3) (c this 4) x6) this (-1) = 12 then
                      zex zc_X12_feed zk_X12_feed (zrun zTab d) F 82 [(2, this), (0, x1), (0, x2), (0, x3), (0, x4), (0, x5), (0, x6), (0, zw (x7 + 1))] [] (zup (zup c (c this 3) (c this 4) x6) this 4 (zadd ((zup c (c this 3) (c this 4) x6) this 4) 1))
                    else none
                  else none
                else none
      else none
    else none
  else
    if c this (-1) = 12 then
      some (c this 4, c)
    else none := zf_X12_feed_82 _ _ this x1 x2 x3 x4 x5 x6 x7 c
set_option maxRecDepth 100000 in
theorem zf_X12_here (call : zCall) (K : zK) (this : Int) (c : zC) : zseg zc_X12_here zk_X12_here call K 1000 0 [(2, this)] [] c =
  if c this (-1) = 12 then
    if c this (-1) = 12 then
      if (c this 5) < (c this 4) then
        if c this (-1) = 12 then
          if c this (-1) = 12 then
            if c (c this 3) (-1) = 100 ∧ (0 : Int) ≤ (c this 5) ∧ (c this 5) < c (c this 3) (-2) then
              some (c (c this 3) (c this 5), c)
            else none
          else none
        else none
      else
        some ((-1), c)
    else none
  else none := by rfl
theorem ze_X12_here (d : Nat) (this : Int) (c : zC) : zrun zTab (d + 1) 156 [this] c =
  if c this (-1) = 12 then
    if c this (-1) = 12 then
      if (c this 5) < (c this 4) then
        if c this (-1) = 12 then
          if c this (-1) = 12 then
            if c (c this 3) (-1) = 100 ∧ (0 : Int) ≤ (c this 5) ∧ (c this 5) < c (c this 3) (-2) then
              some (c (c this 3) (c this 5), c)
            else none
          else none
        else none
      else
        some ((-1), c)
    else none
  else none := (zrun_s zt156).trans (zf_X12_here _ _ this c)
set_option maxRecDepth 100000 in
theorem zf_X12_isLetter (call : zCall) (K : zK) (this : Int) (c : zC) : zseg zc_X12_isLetter zk_X12_isLetter call K 1000 0 [(2, this)] [] c =
  if c this (-1) = 12 then
    zbnd (call 156 [this] c) (fun v1 c2 =>
      zbnd (call 138 [v1, 97, 122] c2) (fun v3 c4 =>
        if v3 = 0 ∨ v3 = 1 then some (v3, c4) else none))
  else none := by rfl
theorem ze_X12_isLetter (d : Nat) (this : Int) (c : zC) : zrun zTab (d + 1) 157 [this] c =
  if c this (-1) = 12 then
    zbnd (zrun zTab d 156 [this] c) (fun v1 c2 =>
      zbnd (zrun zTab d 138 [v1, 97, 122] c2) (fun v3 c4 =>
        if v3 = 0 ∨ v3 = 1 then some (v3, c4) else none))
  else none := (zrun_s zt157).trans (zf_X12_isLetter _ _ this c)
set_option maxRecDepth 100000 in
theorem zf_X12_fails (call : zCall) (K : zK) (this x1 : Int) (c : zC) : zseg zc_X12_fails zk_X12_fails call K 1000 0 [(2, this), (0, x1)] [] c =
  if c this (-1) = 12 then
    if (c this 6) < 0 then
      if c this (-1) = 12 then
        if c this (-1) = 12 then
          if (zup c this 6 (c this 5)) this (-1) = 12 then
            some (0, zup (zup c this 6 (c this 5)) this 7 x1)
          else none
        else none
      else none
    else
      some (0, c)
  else none := by rfl
theorem ze_X12_fails (d : Nat) (this x1 : Int) (c : zC) : zrun zTab (d + 1) 158 [this, x1] c =
  if c this (-1) = 12 then
    if (c this 6) < 0 then
      if c this (-1) = 12 then
        if c this (-1) = 12 then
          if (zup c this 6 (c this 5)) this (-1) = 12 then
            some (0, zup (zup c this 6 (c this 5)) this 7 x1)
          else none
        else none
      else none
    else
      some (0, c)
  else none := (zrun_s zt158).trans (zf_X12_fails _ _ this x1 c)
set_option maxRecDepth 100000 in
theorem zf_X12_isNext (call : zCall) (K : zK) (this x1 : Int) (c : zC) : zseg zc_X12_isNext zk_X12_isNext call K 1000 0 [(2, this), (0, x1)] [] c =
  if c this (-1) = 12 then
    if (c this 6) < 0 then
      if c this (-1) = 12 then
        zbnd (call 156 [this] c) (fun v1 c2 =>
          if v1 = x1 then
            if c2 this (-1) = 12 then
              if c2 this (-1) = 12 then
                some (1, zup c2 this 5 (zadd (c2 this 5) 1))
              else none
            else none
          else
            some (0, c2))
      else none
    else
      some (0, c)
  else none := by rfl
theorem ze_X12_isNext (d : Nat) (this x1 : Int) (c : zC) : zrun zTab (d + 1) 159 [this, x1] c =
  if c this (-1) = 12 then
    if (c this 6) < 0 then
      if c this (-1) = 12 then
        zbnd (zrun zTab d 156 [this] c) (fun v1 c2 =>
          if v1 = x1 then
            if c2 this (-1) = 12 then
              if c2 this (-1) = 12 then
                some (1, zup c2 this 5 (zadd (c2 this 5) 1))
              else none
            else none
          else
            some (0, c2))
      else none
    else
      some (0, c)
  else none := (zrun_s zt159).trans (zf_X12_isNext _ _ this x1 c)
set_option maxRecDepth 100000 in
theorem zf_X12_wants (call : zCall) (K : zK) (this x1 : Int) (c : zC) : zseg zc_X12_wants zk_X12_wants call K 1000 0 [(2, this), (0, x1)] [] c =
  if c this (-1) = 12 then
    if (c this 6) < 0 then
      if c this (-1) = 12 then
        zbnd (call 159 [this, x1] c) (fun v1 c2 =>
          if v1 = 0 then
            if c2 this (-1) = 12 then
              zbnd (call 158 [this, 1] c2) (fun _ c4 =>
                some (0, c4))
            else none
          else
            some (0, c2))
      else none
    else
      some (0, c)
  else none := by rfl
theorem ze_X12_wants (d : Nat) (this x1 : Int) (c : zC) : zrun zTab (d + 1) 160 [this, x1] c =
  if c this (-1) = 12 then
    if (c this 6) < 0 then
      if c this (-1) = 12 then
        zbnd (zrun zTab d 159 [this, x1] c) (fun v1 c2 =>
          if v1 = 0 then
            if c2 this (-1) = 12 then
              zbnd (zrun zTab d 158 [this, 1] c2) (fun _ c4 =>
                some (0, c4))
            else none
          else
            some (0, c2))
      else none
    else
      some (0, c)
  else none := (zrun_s zt160).trans (zf_X12_wants _ _ this x1 c)
set_option maxRecDepth 100000 in
theorem zf_X12_letters (call : zCall) (K : zK) (this x1 x2 x3 : Int) (c : zC) : zseg zc_X12_letters zk_X12_letters call K 1000 0 [(2, this), (2, x1), (0, x2), (0, x3), (3, 0)] [] c =
  K 3 [(2, this), (2, x1), (0, x2), (0, x3), (0, 0)] [] c := by rfl
theorem ze_X12_letters (d : Nat) (this x1 x2 x3 : Int) (c : zC) : zrun zTab (d + 1) 161 [this, x1, x2, x3] c =
  zex zc_X12_letters zk_X12_letters (zrun zTab d) 19999 3 [(2, this), (2, x1), (0, x2), (0, x3), (0, 0)] [] c := (zrun_s zt161).trans (zf_X12_letters _ _ this x1 x2 x3 c)
set_option maxRecDepth 100000 in
theorem zf_X12_letters_3 (call : zCall) (K : zK) (this x1 x2 x3 x4 : Int) (c : zC) : zseg zc_X12_letters zk_X12_letters call K 1000 3 [(2, this), (2, x1), (0, x2), (0, x3), (0, x4)] [] c =
  if c this (-1) = 12 then
    if (c this 6) < 0 then
      if c this (-1) = 12 then
        zbnd (call 157 [this] c) (fun v1 c2 =>
          if v1 = 0 then
            some (x4, c2)
          else
            if x4 = x3 then
              if c2 this (-1) = 12 then
                zbnd (call 158 [this, 2] c2) (fun _ c4 =>
                  some (x4, c4))
              else none
            else
              if c2 this (-1) = 12 then
                zbnd (call 156 [this] c2) (fun v5 c6 =>
                  if c6 x1 (-1) = 100 ∧ (0 : Int) ≤ (zadd x2 x4) ∧ (zadd x2 x4) < c6 x1 (-2) then
                    if (zup c6 x1 (zadd x2 x4) v5) this (-1) = 12 then
                      if (zup c6 x1 (zadd x2 x4) v5) this (-1) = 12 then
                        K 3 [(2, this), (2, x1), (0, x2), (0, x3), (0, zw (x4 + 1))] [] (zup (zup c6 x1 (zadd x2 x4) v5) this 5 (zadd ((zup c6 x1 (zadd x2 x4) v5) this 5) 1))
                      else none
                    else none
                  else none)
              else none)
      else none
    else
      some (x4, c)
  else none := by rfl
theorem ze_X12_letters_3 (d F : Nat) (this x1 x2 x3 x4 : Int) (c : zC) : zex zc_X12_letters zk_X12_letters (zrun zTab d) (F + 1) 3 [(2, this), (2, x1), (0, x2), (0, x3), (0, x4)] [] c =
  if c this (-1) = 12 then
    if (c this 6) < 0 then
      if c this (-1) = 12 then
        zbnd (zrun zTab d 157 [this] c) (fun v1 c2 =>
          if v1 = 0 then
            some (x4, c2)
          else
            if x4 = x3 then
              if c2 this (-1) = 12 then
                zbnd (zrun zTab d 158 [this, 2] c2) (fun _ c4 =>
                  some (x4, c4))
              else none
            else
              if c2 this (-1) = 12 then
                zbnd (zrun zTab d 156 [this] c2) (fun v5 c6 =>
                  if c6 x1 (-1) = 100 ∧ (0 : Int) ≤ (zadd x2 x4) ∧ (zadd x2 x4) < c6 x1 (-2) then
                    if (zup c6 x1 (zadd x2 x4) v5) this (-1) = 12 then
                      if (zup c6 x1 (zadd x2 x4) v5) this (-1) = 12 then
                        zex zc_X12_letters zk_X12_letters (zrun zTab d) F 3 [(2, this), (2, x1), (0, x2), (0, x3), (0, zw (x4 + 1))] [] (zup (zup c6 x1 (zadd x2 x4) v5) this 5 (zadd ((zup c6 x1 (zadd x2 x4) v5) this 5) 1))
                      else none
                    else none
                  else none)
              else none)
      else none
    else
      some (x4, c)
  else none := zf_X12_letters_3 _ _ this x1 x2 x3 x4 c
set_option maxRecDepth 100000 in
theorem zf_X12_word (call : zCall) (K : zK) (this x1 x2 : Int) (c : zC) : zseg zc_X12_word zk_X12_word call K 1000 0 [(2, this), (2, x1), (0, x2)] [] c =
  if c this (-1) = 12 then
    zbnd (call 157 [this] c) (fun v1 c2 =>
      if v1 = 0 then
        if c2 this (-1) = 12 then
          zbnd (call 158 [this, 1] c2) (fun _ c4 =>
            if c4 this (-1) = 12 then
              zbnd (call 161 [this, x1, zadd x2 1, 10] c4) (fun v5 c6 =>
                if c6 x1 (-1) = 100 ∧ (0 : Int) ≤ x2 ∧ x2 < c6 x1 (-2) then
                  some (0, zup c6 x1 x2 v5)
                else none)
            else none)
        else none
      else
        if c2 this (-1) = 12 then
          zbnd (call 161 [this, x1, zadd x2 1, 10] c2) (fun v7 c8 =>
            if c8 x1 (-1) = 100 ∧ (0 : Int) ≤ x2 ∧ x2 < c8 x1 (-2) then
              some (0, zup c8 x1 x2 v7)
            else none)
        else none)
  else none := by rfl
theorem ze_X12_word (d : Nat) (this x1 x2 : Int) (c : zC) : zrun zTab (d + 1) 162 [this, x1, x2] c =
  if c this (-1) = 12 then
    zbnd (zrun zTab d 157 [this] c) (fun v1 c2 =>
      if v1 = 0 then
        if c2 this (-1) = 12 then
          zbnd (zrun zTab d 158 [this, 1] c2) (fun _ c4 =>
            if c4 this (-1) = 12 then
              zbnd (zrun zTab d 161 [this, x1, zadd x2 1, 10] c4) (fun v5 c6 =>
                if c6 x1 (-1) = 100 ∧ (0 : Int) ≤ x2 ∧ x2 < c6 x1 (-2) then
                  some (0, zup c6 x1 x2 v5)
                else none)
            else none)
        else none
      else
        if c2 this (-1) = 12 then
          zbnd (zrun zTab d 161 [this, x1, zadd x2 1, 10] c2) (fun v7 c8 =>
            if c8 x1 (-1) = 100 ∧ (0 : Int) ≤ x2 ∧ x2 < c8 x1 (-2) then
              some (0, zup c8 x1 x2 v7)
            else none)
        else none)
  else none := (zrun_s zt162).trans (zf_X12_word _ _ this x1 x2 c)
set_option maxRecDepth 100000 in
theorem zf_X12_begins (call : zCall) (K : zK) (this : Int) (c : zC) : zseg zc_X12_begins zk_X12_begins call K 1000 0 [(2, this)] [] c =
  if c this (-1) = 12 then
    if (zup c this 5 0) this (-1) = 12 then
      if (zup (zup c this 5 0) this 6 (-1)) this (-1) = 12 then
        if (zup (zup (zup c this 5 0) this 6 (-1)) this 7 0) this (-1) = 12 then
          some (0, zup (zup (zup (zup c this 5 0) this 6 (-1)) this 7 0) this 10 0)
        else none
      else none
    else none
  else none := by rfl
theorem ze_X12_begins (d : Nat) (this : Int) (c : zC) : zrun zTab (d + 1) 163 [this] c =
  if c this (-1) = 12 then
    if (zup c this 5 0) this (-1) = 12 then
      if (zup (zup c this 5 0) this 6 (-1)) this (-1) = 12 then
        if (zup (zup (zup c this 5 0) this 6 (-1)) this 7 0) this (-1) = 12 then
          some (0, zup (zup (zup (zup c this 5 0) this 6 (-1)) this 7 0) this 10 0)
        else none
      else none
    else none
  else none := (zrun_s zt163).trans (zf_X12_begins _ _ this c)
set_option maxRecDepth 100000 in
theorem zf_X12_isWrong (call : zCall) (K : zK) (this : Int) (c : zC) : zseg zc_X12_isWrong zk_X12_isWrong call K 1000 0 [(2, this)] [] c =
  if c this (-1) = 12 then
    if (c this 6) < 0 then
      if c this (-1) = 12 then
        if c this (-1) = 12 then
          if (c this 5) < (c this 4) then
            if c this (-1) = 12 then
              zbnd (call 158 [this, 1] c) (fun _ c2 =>
                K 23 [(2, this)] [] c2)
            else none
          else
            K 23 [(2, this)] [] c
        else none
      else none
    else
      K 23 [(2, this)] [] c
  else none := by rfl
theorem ze_X12_isWrong (d : Nat) (this : Int) (c : zC) : zrun zTab (d + 1) 164 [this] c =
  if c this (-1) = 12 then
    if (c this 6) < 0 then
      if c this (-1) = 12 then
        if c this (-1) = 12 then
          if (c this 5) < (c this 4) then
            if c this (-1) = 12 then
              zbnd (zrun zTab d 158 [this, 1] c) (fun _ c2 =>
                zex zc_X12_isWrong zk_X12_isWrong (zrun zTab d) 19999 23 [(2, this)] [] c2)
            else none
          else
            zex zc_X12_isWrong zk_X12_isWrong (zrun zTab d) 19999 23 [(2, this)] [] c
        else none
      else none
    else
      zex zc_X12_isWrong zk_X12_isWrong (zrun zTab d) 19999 23 [(2, this)] [] c
  else none := (zrun_s zt164).trans (zf_X12_isWrong _ _ this c)
set_option maxRecDepth 100000 in
theorem zf_X12_isWrong_23 (call : zCall) (K : zK) (this : Int) (c : zC) : zseg zc_X12_isWrong zk_X12_isWrong call K 1000 23 [(2, this)] [] c =
  if c this (-1) = 12 then
    if (zup c this 4 0) this (-1) = 12 then
      if ((zup c this 4 0) this 6) < 0 then
        if (zup c this 4 0) this (-1) = 12 then
          if ((zup c this 4 0) this 6) < 0 then
            some (0, zup c this 4 0)
          else
            some (1, zup c this 4 0)
        else none
      else
        if (zup c this 4 0) this (-1) = 12 then
          if (zup c this 4 0) this (-1) = 12 then
            if (zup (zup c this 4 0) this 8 ((zup c this 4 0) this 7)) this (-1) = 12 then
              if ((zup (zup c this 4 0) this 8 ((zup c this 4 0) this 7)) this 6) < 0 then
                some (0, zup (zup c this 4 0) this 8 ((zup c this 4 0) this 7))
              else
                some (1, zup (zup c this 4 0) this 8 ((zup c this 4 0) this 7))
            else none
          else none
        else none
    else none
  else none := by rfl
theorem ze_X12_isWrong_23 (d F : Nat) (this : Int) (c : zC) : zex zc_X12_isWrong zk_X12_isWrong (zrun zTab d) (F + 1) 23 [(2, this)] [] c =
  if c this (-1) = 12 then
    if (zup c this 4 0) this (-1) = 12 then
      if ((zup c this 4 0) this 6) < 0 then
        if (zup c this 4 0) this (-1) = 12 then
          if ((zup c this 4 0) this 6) < 0 then
            some (0, zup c this 4 0)
          else
            some (1, zup c this 4 0)
        else none
      else
        if (zup c this 4 0) this (-1) = 12 then
          if (zup c this 4 0) this (-1) = 12 then
            if (zup (zup c this 4 0) this 8 ((zup c this 4 0) this 7)) this (-1) = 12 then
              if ((zup (zup c this 4 0) this 8 ((zup c this 4 0) this 7)) this 6) < 0 then
                some (0, zup (zup c this 4 0) this 8 ((zup c this 4 0) this 7))
              else
                some (1, zup (zup c this 4 0) this 8 ((zup c this 4 0) this 7))
            else none
          else none
        else none
    else none
  else none := zf_X12_isWrong_23 _ _ this c
set_option maxRecDepth 100000 in
theorem zf_X12_readsWord (call : zCall) (K : zK) (this x1 : Int) (c : zC) : zseg zc_X12_readsWord zk_X12_readsWord call K 1000 0 [(2, this), (0, x1), (3, 0)] [] c =
  if c this (-1) = 12 then
    zbnd (call 157 [this] c) (fun v1 c2 =>
      if v1 = 0 then
        if c2 this (-1) = 12 then
          zbnd (call 158 [this, 1] c2) (fun _ c4 =>
            K 29 [(2, this), (0, x1), (3, 0)] [] c4)
        else none
      else
        if c2 this (-1) = 12 then
          if (c2 this 10) = 20 then
            if c2 this (-1) = 12 then
              zbnd (call 158 [this, 3] c2) (fun _ c6 =>
                K 29 [(2, this), (0, x1), (3, 0)] [] c6)
            else none
          else
            K 29 [(2, this), (0, x1), (3, 0)] [] c2
        else none)
  else none := by rfl
theorem ze_X12_readsWord (d : Nat) (this x1 : Int) (c : zC) : zrun zTab (d + 1) 165 [this, x1] c =
  if c this (-1) = 12 then
    zbnd (zrun zTab d 157 [this] c) (fun v1 c2 =>
      if v1 = 0 then
        if c2 this (-1) = 12 then
          zbnd (zrun zTab d 158 [this, 1] c2) (fun _ c4 =>
            zex zc_X12_readsWord zk_X12_readsWord (zrun zTab d) 19999 29 [(2, this), (0, x1), (3, 0)] [] c4)
        else none
      else
        if c2 this (-1) = 12 then
          if (c2 this 10) = 20 then
            if c2 this (-1) = 12 then
              zbnd (zrun zTab d 158 [this, 3] c2) (fun _ c6 =>
                zex zc_X12_readsWord zk_X12_readsWord (zrun zTab d) 19999 29 [(2, this), (0, x1), (3, 0)] [] c6)
            else none
          else
            zex zc_X12_readsWord zk_X12_readsWord (zrun zTab d) 19999 29 [(2, this), (0, x1), (3, 0)] [] c2
        else none)
  else none := (zrun_s zt165).trans (zf_X12_readsWord _ _ this x1 c)
set_option maxRecDepth 100000 in
theorem zf_X12_readsWord_29 (call : zCall) (K : zK) (this x1 : Int) (c : zC) : zseg zc_X12_readsWord zk_X12_readsWord call K 1000 29 [(2, this), (0, x1), (3, 0)] [] c =
  if c this (-1) = 12 then
    if (c this 6) < 0 then
      if c this (-1) = 12 then
        if c this (-1) = 12 then
          if c this (-1) = 12 then
            zbnd (call 162 [this, c this 9, zadd (zmul 12 (c this 10)) 1] c) (fun _ c2 =>
              if c2 this (-1) = 12 then
                if c2 (c2 this 9) (-1) = 100 ∧ (0 : Int) ≤ (zmul 12 (c this 10)) ∧ (zmul 12 (c this 10)) < c2 (c2 this 9) (-2) then
                  if (zup c2 (c2 this 9) (zmul 12 (c this 10)) x1) this (-1) = 12 then
                    if (zup c2 (c2 this 9) (zmul 12 (c this 10)) x1) this (-1) = 12 then
                      some (0, zup (zup c2 (c2 this 9) (zmul 12 (c this 10)) x1) this 10 (zadd ((zup c2 (c2 this 9) (zmul 12 (c this 10)) x1) this 10) 1))
                    else none
                  else none
                else none
              else none)
          else none
        else none
      else none
    else
      some (0, c)
  else none := by rfl
theorem ze_X12_readsWord_29 (d F : Nat) (this x1 : Int) (c : zC) : zex zc_X12_readsWord zk_X12_readsWord (zrun zTab d) (F + 1) 29 [(2, this), (0, x1), (3, 0)] [] c =
  if c this (-1) = 12 then
    if (c this 6) < 0 then
      if c this (-1) = 12 then
        if c this (-1) = 12 then
          if c this (-1) = 12 then
            zbnd (zrun zTab d 162 [this, c this 9, zadd (zmul 12 (c this 10)) 1] c) (fun _ c2 =>
              if c2 this (-1) = 12 then
                if c2 (c2 this 9) (-1) = 100 ∧ (0 : Int) ≤ (zmul 12 (c this 10)) ∧ (zmul 12 (c this 10)) < c2 (c2 this 9) (-2) then
                  if (zup c2 (c2 this 9) (zmul 12 (c this 10)) x1) this (-1) = 12 then
                    if (zup c2 (c2 this 9) (zmul 12 (c this 10)) x1) this (-1) = 12 then
                      some (0, zup (zup c2 (c2 this 9) (zmul 12 (c this 10)) x1) this 10 (zadd ((zup c2 (c2 this 9) (zmul 12 (c this 10)) x1) this 10) 1))
                    else none
                  else none
                else none
              else none)
          else none
        else none
      else none
    else
      some (0, c)
  else none := zf_X12_readsWord_29 _ _ this x1 c
set_option maxRecDepth 100000 in
theorem zf_X12_readsPage (call : zCall) (K : zK) (this : Int) (c : zC) : zseg zc_X12_readsPage zk_X12_readsPage call K 1000 0 [(2, this), (3, 0)] [] c =
  if c this (-1) = 12 then
    zbnd (call 165 [this, 0] c) (fun _ c2 =>
      K 7 [(2, this), (0, 0)] [] c2)
  else none := by rfl
theorem ze_X12_readsPage (d : Nat) (this : Int) (c : zC) : zrun zTab (d + 1) 166 [this] c =
  if c this (-1) = 12 then
    zbnd (zrun zTab d 165 [this, 0] c) (fun _ c2 =>
      zex zc_X12_readsPage zk_X12_readsPage (zrun zTab d) 19999 7 [(2, this), (0, 0)] [] c2)
  else none := (zrun_s zt166).trans (zf_X12_readsPage _ _ this c)
