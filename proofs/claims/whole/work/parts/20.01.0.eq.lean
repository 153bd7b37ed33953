set_option maxRecDepth 100000 in
theorem zf_X1_init (call : zCall) (K : zK) (this : Int) (c : zC) : zseg zc_X1_init zk_X1_init call K 1000 0 [(2, this)] [] c =
  if this = 0 then none else
    if (znew c 100 20) this (-1) = 2 then
      K 12 [(2, this)] [] (zup (znew c 100 20) this 0 (c 0 0))
    else none := by rfl
theorem ze_X1_init (d : Nat) (this : Int) (c : zC) : zrun zTab (d + 1) 6 [this] c =
  if this = 0 then none else
    if (znew c 100 20) this (-1) = 2 then
      zex zc_X1_init zk_X1_init (zrun zTab d) 19999 12 [(2, this)] [] (zup (znew c 100 20) this 0 (c 0 0))
    else none := (zrun_s zt6).trans (zf_X1_init _ _ this c)
set_option maxRecDepth 100000 in
theorem zf_X1_init_12 (call : zCall) (K : zK) (this : Int) (c : zC) : zseg zc_X1_init zk_X1_init call K 1000 12 [(2, this)] [] c =
  if (znew c 100 20) this (-1) = 2 then
    K 20 [(2, this)] [] (zup (znew c 100 20) this 1 (c 0 0))
  else none := by rfl
theorem ze_X1_init_12 (d F : Nat) (this : Int) (c : zC) : zex zc_X1_init zk_X1_init (zrun zTab d) (F + 1) 12 [(2, this)] [] c =
  if (znew c 100 20) this (-1) = 2 then
    zex zc_X1_init zk_X1_init (zrun zTab d) F 20 [(2, this)] [] (zup (znew c 100 20) this 1 (c 0 0))
  else none := zf_X1_init_12 _ _ this c
set_option maxRecDepth 100000 in
theorem zf_X1_init_20 (call : zCall) (K : zK) (this : Int) (c : zC) : zseg zc_X1_init zk_X1_init call K 1000 20 [(2, this)] [] c =
  if c this (-1) = 2 then
    K 26 [(2, this)] [] (zup c this 2 (-5))
  else none := by rfl
theorem ze_X1_init_20 (d F : Nat) (this : Int) (c : zC) : zex zc_X1_init zk_X1_init (zrun zTab d) (F + 1) 20 [(2, this)] [] c =
  if c this (-1) = 2 then
    zex zc_X1_init zk_X1_init (zrun zTab d) F 26 [(2, this)] [] (zup c this 2 (-5))
  else none := zf_X1_init_20 _ _ this c
set_option maxRecDepth 100000 in
theorem zf_X1_init_26 (call : zCall) (K : zK) (this : Int) (c : zC) : zseg zc_X1_init zk_X1_init call K 1000 26 [(2, this)] [] c =
  if c this (-1) = 2 then
    K 32 [(2, this)] [] (zup c this 3 (-5))
  else none := by rfl
theorem ze_X1_init_26 (d F : Nat) (this : Int) (c : zC) : zex zc_X1_init zk_X1_init (zrun zTab d) (F + 1) 26 [(2, this)] [] c =
  if c this (-1) = 2 then
    zex zc_X1_init zk_X1_init (zrun zTab d) F 32 [(2, this)] [] (zup c this 3 (-5))
  else none := zf_X1_init_26 _ _ this c
set_option maxRecDepth 100000 in
theorem zf_X1_init_32 (call : zCall) (K : zK) (this : Int) (c : zC) : zseg zc_X1_init zk_X1_init call K 1000 32 [(2, this)] [] c =
  if c this (-1) = 2 then
    K 38 [(3, 0)] [] (zup c this 4 (-5))
  else none := by rfl
theorem ze_X1_init_32 (d F : Nat) (this : Int) (c : zC) : zex zc_X1_init zk_X1_init (zrun zTab d) (F + 1) 32 [(2, this)] [] c =
  if c this (-1) = 2 then
    zex zc_X1_init zk_X1_init (zrun zTab d) F 38 [(3, 0)] [] (zup c this 4 (-5))
  else none := zf_X1_init_32 _ _ this c
set_option maxRecDepth 100000 in
theorem zf_X1_init_38 (call : zCall) (K : zK) (c : zC) : zseg zc_X1_init zk_X1_init call K 1000 38 [(3, 0)] [] c =
  some (0, c) := by rfl
theorem ze_X1_init_38 (d F : Nat) (c : zC) : zex zc_X1_init zk_X1_init (zrun zTab d) (F + 1) 38 [(3, 0)] [] c =
  some (0, c) := zf_X1_init_38 _ _ c
set_option maxRecDepth 100000 in
theorem zf_X1_compare (call : zCall) (K : zK) (this x1 x2 x3 : Int) (c : zC) : zseg zc_X1_compare zk_X1_compare call K 1000 0 [(2, this), (0, x1), (0, x2), (0, x3), (3, 0)] [] c =
  if c this (-1) = 2 then
    if (zup c this 2 0) this (-1) = 2 then
      if (zup (zup c this 2 0) this 3 0) this (-1) = 2 then
        K 19 [(2, this), (0, x1), (0, x2), (0, x3), (0, 0)] [] (zup (zup (zup c this 2 0) this 3 0) this 4 (-5))
      else none
    else none
  else none := by rfl
theorem ze_X1_compare (d : Nat) (this x1 x2 x3 : Int) (c : zC) : zrun zTab (d + 1) 7 [this, x1, x2, x3] c =
  if c this (-1) = 2 then
    if (zup c this 2 0) this (-1) = 2 then
      if (zup (zup c this 2 0) this 3 0) this (-1) = 2 then
        zex zc_X1_compare zk_X1_compare (zrun zTab d) 19999 19 [(2, this), (0, x1), (0, x2), (0, x3), (0, 0)] [] (zup (zup (zup c this 2 0) this 3 0) this 4 (-5))
      else none
    else none
  else none := (zrun_s zt7).trans (zf_X1_compare _ _ this x1 x2 x3 c)
set_option maxRecDepth 100000 in
theorem zf_X1_compare_19 (call : zCall) (K : zK) (this x1 x2 x3 x4 : Int) (c : zC) : zseg zc_X1_compare zk_X1_compare call K 1000 19 [(2, this), (0, x1), (0, x2), (0, x3), (0, x4)] [] c =
  if x4 < 20 then
    if c this (-1) = 2 then
      if c this (-1) = 2 then
        zbnd (call 8 [x4, x1, x3, x2] c) (fun v1 c2 =>
          zbnd (call 9 [c this 1, x4, c this 0, v1] c2) (fun v3 c4 =>
            if v3 = 0 then
              K 82 [(2, this), (0, x1), (0, x2), (0, x3), (0, x4)] [] c4
            else
              if c4 this (-1) = 2 then
                if c4 this (-1) = 2 then
                  if (zup c4 this 2 (zadd (c4 this 2) 1)) this (-1) = 2 then
                    if ((zup c4 this 2 (zadd (c4 this 2) 1)) this 4) = (-5) then
                      if (zup c4 this 2 (zadd (c4 this 2) 1)) this (-1) = 2 then
                        K 82 [(2, this), (0, x1), (0, x2), (0, x3), (0, x4)] [] (zup (zup c4 this 2 (zadd (c4 this 2) 1)) this 4 x4)
                      else none
                    else
                      if (zup c4 this 2 (zadd (c4 this 2) 1)) this (-1) = 2 then
                        if (zup c4 this 2 (zadd (c4 this 2) 1)) this (-1) = 2 then
                          K 82 [(2, this), (0, x1), (0, x2), (0, x3), (0, x4)] [] (zup (zup c4 this 2 (zadd (c4 this 2) 1)) this 4 ((zup c4 this 2 (zadd (c4 this 2) 1)) this 4))
                        else none
                      else none
                  else none
                else none
              else none))
      else none
    else none
  else
    some (0, c) := by rfl
theorem ze_X1_compare_19 (d F : Nat) (this x1 x2 x3 x4 : Int) (c : zC) : zex zc_X1_compare zk_X1_compare (zrun zTab d) (F + 1) 19 [(2, this), (0, x1), (0, x2), (0, x3), (0, x4)] [] c =
  if x4 < 20 then
    if c this (-1) = 2 then
      if c this (-1) = 2 then
        zbnd (zrun zTab d 8 [x4, x1, x3, x2] c) (fun v1 c2 =>
          zbnd (zrun zTab d 9 [c this 1, x4, c this 0, v1] c2) (fun v3 c4 =>
            if v3 = 0 then
              zex zc_X1_compare zk_X1_compare (zrun zTab d) F 82 [(2, this), (0, x1), (0, x2), (0, x3), (0, x4)] [] c4
            else
              if c4 this (-1) = 2 then
                if c4 this (-1) = 2 then
                  if (zup c4 this 2 (zadd (c4 this 2) 1)) this (-1) = 2 then
                    if ((zup c4 this 2 (zadd (c4 this 2) 1)) this 4) = (-5) then
                      if (zup c4 this 2 (zadd (c4 this 2) 1)) this (-1) = 2 then
                        zex zc_X1_compare zk_X1_compare (zrun zTab d) F 82 [(2, this), (0, x1), (0, x2), (0, x3), (0, x4)] [] (zup (zup c4 this 2 (zadd (c4 this 2) 1)) this 4 x4)
                      else none
                    else
                      if (zup c4 this 2 (zadd (c4 this 2) 1)) this (-1) = 2 then
                        if (zup c4 this 2 (zadd (c4 this 2) 1)) this (-1) = 2 then
                          zex zc_X1_compare zk_X1_compare (zrun zTab d) F 82 [(2, this), (0, x1), (0, x2), (0, x3), (0, x4)] [] (zup (zup c4 this 2 (zadd (c4 this 2) 1)) this 4 ((zup c4 this 2 (zadd (c4 this 2) 1)) this 4))
                        else none
                      else none
                  else none
                else none
              else none))
      else none
    else none
  else
    some (0, c) := zf_X1_compare_19 _ _ this x1 x2 x3 x4 c
set_option maxRecDepth 100000 in
theorem zf_X1_compare_82 (call : zCall) (K : zK) (this x1 x2 x3 x4 : Int) (c : zC) : zseg zc_X1_compare zk_X1_compare call K 1000 82 [(2, this), (0, x1), (0, x2), (0, x3), (0, x4)] [] c =
  if c this (-1) = 2 then
    if c this (-1) = 2 then
      zbnd (call 8 [x4, x1, x2, x3] c) (fun v1 c2 =>
        zbnd (call 9 [c this 0, x4, c this 1, v1] c2) (fun v3 c4 =>
          if v3 = 0 then
            K 19 [(2, this), (0, x1), (0, x2), (0, x3), (0, zw (x4 + 1))] [] c4
          else
            if c4 this (-1) = 2 then
              if c4 this (-1) = 2 then
                K 19 [(2, this), (0, x1), (0, x2), (0, x3), (0, zw (x4 + 1))] [] (zup c4 this 3 (zadd (c4 this 3) 1))
              else none
            else none))
    else none
  else none := by rfl
theorem ze_X1_compare_82 (d F : Nat) (this x1 x2 x3 x4 : Int) (c : zC) : zex zc_X1_compare zk_X1_compare (zrun zTab d) (F + 1) 82 [(2, this), (0, x1), (0, x2), (0, x3), (0, x4)] [] c =
  if c this (-1) = 2 then
    if c this (-1) = 2 then
      zbnd (zrun zTab d 8 [x4, x1, x2, x3] c) (fun v1 c2 =>
        zbnd (zrun zTab d 9 [c this 0, x4, c this 1, v1] c2) (fun v3 c4 =>
          if v3 = 0 then
            zex zc_X1_compare zk_X1_compare (zrun zTab d) F 19 [(2, this), (0, x1), (0, x2), (0, x3), (0, zw (x4 + 1))] [] c4
          else
            if c4 this (-1) = 2 then
              if c4 this (-1) = 2 then
                zex zc_X1_compare zk_X1_compare (zrun zTab d) F 19 [(2, this), (0, x1), (0, x2), (0, x3), (0, zw (x4 + 1))] [] (zup c4 this 3 (zadd (c4 this 3) 1))
              else none
            else none))
    else none
  else none := zf_X1_compare_82 _ _ this x1 x2 x3 x4 c
set_option maxRecDepth 100000 in
theorem zf_X1_placeOf (call : zCall) (K : zK) (x0 x1 x2 x3 : Int) (c : zC) : zseg zc_X1_placeOf zk_X1_placeOf call K 1000 0 [(0, x0), (0, x1), (0, x2), (0, x3)] [] c =
  if x0 < x1 then
    some (x0, c)
  else
    if x0 < (zadd x1 x2) then
      some ((-5), c)
    else
      some (zadd (zsub x0 x2) x3, c) := by rfl
theorem ze_X1_placeOf (d : Nat) (x0 x1 x2 x3 : Int) (c : zC) : zrun zTab (d + 1) 8 [x0, x1, x2, x3] c =
  if x0 < x1 then
    some (x0, c)
  else
    if x0 < (zadd x1 x2) then
      some ((-5), c)
    else
      some (zadd (zsub x0 x2) x3, c) := (zrun_s zt8).trans (zf_X1_placeOf _ _ x0 x1 x2 x3 c)
set_option maxRecDepth 100000 in
theorem zf_X1_isLinkOnlyHere (call : zCall) (K : zK) (x0 x1 x2 x3 : Int) (c : zC) : zseg zc_X1_isLinkOnlyHere zk_X1_isLinkOnlyHere call K 1000 0 [(2, x0), (0, x1), (2, x2), (0, x3)] [] c =
  if x1 < 0 then
    some (0, c)
  else
    if c x0 (-1) = 100 then
      if x1 < (c x0 (-2)) then
        if c x0 (-1) = 100 ∧ (0 : Int) ≤ x1 ∧ x1 < c x0 (-2) then
          if (c x0 x1) = (-5) then
            some (0, c)
          else
            if x3 < 0 then
              some (1, c)
            else
              if c x2 (-1) = 100 then
                if x3 < (c x2 (-2)) then
                  if c x2 (-1) = 100 ∧ (0 : Int) ≤ x3 ∧ x3 < c x2 (-2) then
                    if c x0 (-1) = 100 ∧ (0 : Int) ≤ x1 ∧ x1 < c x0 (-2) then
                      if (c x2 x3) = (c x0 x1) then
                        some (0, c)
                      else
                        some (1, c)
                    else none
                  else none
                else
                  some (1, c)
              else none
        else none
      else
        some (0, c)
    else none := by rfl
theorem ze_X1_isLinkOnlyHere (d : Nat) (x0 x1 x2 x3 : Int) (c : zC) : zrun zTab (d + 1) 9 [x0, x1, x2, x3] c =
  if x1 < 0 then
    some (0, c)
  else
    if c x0 (-1) = 100 then
      if x1 < (c x0 (-2)) then
        if c x0 (-1) = 100 ∧ (0 : Int) ≤ x1 ∧ x1 < c x0 (-2) then
          if (c x0 x1) = (-5) then
            some (0, c)
          else
            if x3 < 0 then
              some (1, c)
            else
              if c x2 (-1) = 100 then
                if x3 < (c x2 (-2)) then
                  if c x2 (-1) = 100 ∧ (0 : Int) ≤ x3 ∧ x3 < c x2 (-2) then
                    if c x0 (-1) = 100 ∧ (0 : Int) ≤ x1 ∧ x1 < c x0 (-2) then
                      if (c x2 x3) = (c x0 x1) then
                        some (0, c)
                      else
                        some (1, c)
                    else none
                  else none
                else
                  some (1, c)
              else none
        else none
      else
        some (0, c)
    else none := (zrun_s zt9).trans (zf_X1_isLinkOnlyHere _ _ x0 x1 x2 x3 c)
