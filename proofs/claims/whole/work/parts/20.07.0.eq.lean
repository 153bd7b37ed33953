set_option maxRecDepth 100000 in
theorem zf_X7_init (call : zCall) (K : zK) (this : Int) (c : zC) : zseg zc_X7_init zk_X7_init call K 1000 0 [(2, this)] [] c =
  if this = 0 then none else
    if (znew c 101 4) this (-1) = 8 then
      K 11 [(2, this)] [] (zup (znew c 101 4) this 1 (c 0 0))
    else none := by rfl
theorem ze_X7_init (d : Nat) (this : Int) (c : zC) : zrun zTab (d + 1) 62 [this] c =
  if this = 0 then none else
    if (znew c 101 4) this (-1) = 8 then
      zex zc_X7_init zk_X7_init (zrun zTab d) 19999 11 [(2, this)] [] (zup (znew c 101 4) this 1 (c 0 0))
    else none := (zrun_s zt62).trans (zf_X7_init _ _ this c)
set_option maxRecDepth 100000 in
theorem zf_X7_init_11 (call : zCall) (K : zK) (this : Int) (c : zC) : zseg zc_X7_init zk_X7_init call K 1000 11 [(2, this)] [] c =
  if c this (-1) = 8 then
    K 17 [(3, 0)] [] (zup c this 3 (-5))
  else none := by rfl
theorem ze_X7_init_11 (d F : Nat) (this : Int) (c : zC) : zex zc_X7_init zk_X7_init (zrun zTab d) (F + 1) 11 [(2, this)] [] c =
  if c this (-1) = 8 then
    zex zc_X7_init zk_X7_init (zrun zTab d) F 17 [(3, 0)] [] (zup c this 3 (-5))
  else none := zf_X7_init_11 _ _ this c
set_option maxRecDepth 100000 in
theorem zf_X7_init_17 (call : zCall) (K : zK) (c : zC) : zseg zc_X7_init zk_X7_init call K 1000 17 [(3, 0)] [] c =
  some (0, c) := by rfl
theorem ze_X7_init_17 (d F : Nat) (c : zC) : zex zc_X7_init zk_X7_init (zrun zTab d) (F + 1) 17 [(3, 0)] [] c =
  some (0, c) := zf_X7_init_17 _ _ c
set_option maxRecDepth 100000 in
theorem zf_X7_hintAt (call : zCall) (K : zK) (this x1 : Int) (c : zC) : zseg zc_X7_hintAt zk_X7_hintAt call K 1000 0 [(2, this), (0, x1)] [] c =
  if x1 < 0 then
    some (0, c)
  else
    if c this (-1) = 8 then
      if x1 < (c this 2) then
        if c this (-1) = 8 then
          if c (c this 1) (-1) = 101 then
            if x1 < (c (c this 1) (-2)) then
              if c this (-1) = 8 then
                if c (c this 1) (-1) = 101 ∧ (0 : Int) ≤ x1 ∧ x1 < c (c this 1) (-2) then
                  some (c (c this 1) x1, c)
                else none
              else none
            else
              some (0, c)
          else none
        else none
      else
        some (0, c)
    else none := by rfl
theorem ze_X7_hintAt (d : Nat) (this x1 : Int) (c : zC) : zrun zTab (d + 1) 63 [this, x1] c =
  if x1 < 0 then
    some (0, c)
  else
    if c this (-1) = 8 then
      if x1 < (c this 2) then
        if c this (-1) = 8 then
          if c (c this 1) (-1) = 101 then
            if x1 < (c (c this 1) (-2)) then
              if c this (-1) = 8 then
                if c (c this 1) (-1) = 101 ∧ (0 : Int) ≤ x1 ∧ x1 < c (c this 1) (-2) then
                  some (c (c this 1) x1, c)
                else none
              else none
            else
              some (0, c)
          else none
        else none
      else
        some (0, c)
    else none := (zrun_s zt63).trans (zf_X7_hintAt _ _ this x1 c)
set_option maxRecDepth 100000 in
theorem zf_X7_addHint (call : zCall) (K : zK) (this x1 : Int) (c : zC) : zseg zc_X7_addHint zk_X7_addHint call K 1000 0 [(2, this), (1, x1), (3, 0)] [] c =
  if c this (-1) = 8 then
    if (c this 2) < 0 then
      some (0, c)
    else
      if c this (-1) = 8 then
        if c this (-1) = 8 then
          if c (c this 1) (-1) = 101 then
            if (c this 2) < (c (c this 1) (-2)) then
              if c this (-1) = 8 then
                if c this (-1) = 8 then
                  if c (c this 1) (-1) = 101 ∧ (0 : Int) ≤ (c this 2) ∧ (c this 2) < c (c this 1) (-2) then
                    if (zup c (c this 1) (c this 2) x1) this (-1) = 8 then
                      if (zup c (c this 1) (c this 2) x1) this (-1) = 8 then
                        some (0, zup (zup c (c this 1) (c this 2) x1) this 2 (zadd ((zup c (c this 1) (c this 2) x1) this 2) 1))
                      else none
                    else none
                  else none
                else none
              else none
            else
              some (0, c)
          else none
        else none
      else none
  else none := by rfl
theorem ze_X7_addHint (d : Nat) (this x1 : Int) (c : zC) : zrun zTab (d + 1) 64 [this, x1] c =
  if c this (-1) = 8 then
    if (c this 2) < 0 then
      some (0, c)
    else
      if c this (-1) = 8 then
        if c this (-1) = 8 then
          if c (c this 1) (-1) = 101 then
            if (c this 2) < (c (c this 1) (-2)) then
              if c this (-1) = 8 then
                if c this (-1) = 8 then
                  if c (c this 1) (-1) = 101 ∧ (0 : Int) ≤ (c this 2) ∧ (c this 2) < c (c this 1) (-2) then
                    if (zup c (c this 1) (c this 2) x1) this (-1) = 8 then
                      if (zup c (c this 1) (c this 2) x1) this (-1) = 8 then
                        some (0, zup (zup c (c this 1) (c this 2) x1) this 2 (zadd ((zup c (c this 1) (c this 2) x1) this 2) 1))
                      else none
                    else none
                  else none
                else none
              else none
            else
              some (0, c)
          else none
        else none
      else none
  else none := (zrun_s zt64).trans (zf_X7_addHint _ _ this x1 c)
set_option maxRecDepth 100000 in
theorem zf_X7_copyFrom (call : zCall) (K : zK) (this x1 : Int) (c : zC) : zseg zc_X7_copyFrom zk_X7_copyFrom call K 1000 0 [(2, this), (2, x1)] [] c =
  if x1 = 0 then
    some (0, c)
  else
    if c x1 (-1) = 8 then
      if c this (-1) = 8 then
        if (zup c this 0 (c x1 0)) x1 (-1) = 8 then
          if (zup c this 0 (c x1 0)) this (-1) = 8 then
            if (zup c this 0 (c x1 0)) ((zup c this 0 (c x1 0)) x1 1) (-1) = 101 ∧ (zup c this 0 (c x1 0)) ((zup c this 0 (c x1 0)) this 1) (-1) = 101 ∧ (0 : Int) ≤ 4 ∧ (0 : Int) ≤ 0 ∧ (0 : Int) ≤ 0 ∧ 0 + 4 ≤ (zup c this 0 (c x1 0)) ((zup c this 0 (c x1 0)) x1 1) (-2) ∧ 0 + 4 ≤ (zup c this 0 (c x1 0)) ((zup c this 0 (c x1 0)) this 1) (-2) then
              if (zcopy (zup c this 0 (c x1 0)) ((zup c this 0 (c x1 0)) x1 1) 0 ((zup c this 0 (c x1 0)) this 1) 0 4) x1 (-1) = 8 then
                if (zcopy (zup c this 0 (c x1 0)) ((zup c this 0 (c x1 0)) x1 1) 0 ((zup c this 0 (c x1 0)) this 1) 0 4) this (-1) = 8 then
                  if (zup (zcopy (zup c this 0 (c x1 0)) ((zup c this 0 (c x1 0)) x1 1) 0 ((zup c this 0 (c x1 0)) this 1) 0 4) this 2 ((zcopy (zup c this 0 (c x1 0)) ((zup c this 0 (c x1 0)) x1 1) 0 ((zup c this 0 (c x1 0)) this 1) 0 4) x1 2)) x1 (-1) = 8 then
                    if (zup (zcopy (zup c this 0 (c x1 0)) ((zup c this 0 (c x1 0)) x1 1) 0 ((zup c this 0 (c x1 0)) this 1) 0 4) this 2 ((zcopy (zup c this 0 (c x1 0)) ((zup c this 0 (c x1 0)) x1 1) 0 ((zup c this 0 (c x1 0)) this 1) 0 4) x1 2)) this (-1) = 8 then
                      some (0, zup (zup (zcopy (zup c this 0 (c x1 0)) ((zup c this 0 (c x1 0)) x1 1) 0 ((zup c this 0 (c x1 0)) this 1) 0 4) this 2 ((zcopy (zup c this 0 (c x1 0)) ((zup c this 0 (c x1 0)) x1 1) 0 ((zup c this 0 (c x1 0)) this 1) 0 4) x1 2)) this 3 ((zup (zcopy (zup c this 0 (c x1 0)) ((zup c this 0 (c x1 0)) x1 1) 0 ((zup c this 0 (c x1 0)) this 1) 0 4) this 2 ((zcopy (zup c this 0 (c x1 0)) ((zup c this 0 (c x1 0)) x1 1) 0 ((zup c this 0 (c x1 0)) this 1) 0 4) x1 2)) x1 3))
                    else none
                  else none
                else none
              else none
            else none
          else none
        else none
      else none
    else none := by rfl
theorem ze_X7_copyFrom (d : Nat) (this x1 : Int) (c : zC) : zrun zTab (d + 1) 65 [this, x1] c =
  if x1 = 0 then
    some (0, c)
  else
    if c x1 (-1) = 8 then
      if c this (-1) = 8 then
        if (zup c this 0 (c x1 0)) x1 (-1) = 8 then
          if (zup c this 0 (c x1 0)) this (-1) = 8 then
            if (zup c this 0 (c x1 0)) ((zup c this 0 (c x1 0)) x1 1) (-1) = 101 ∧ (zup c this 0 (c x1 0)) ((zup c this 0 (c x1 0)) this 1) (-1) = 101 ∧ (0 : Int) ≤ 4 ∧ (0 : Int) ≤ 0 ∧ (0 : Int) ≤ 0 ∧ 0 + 4 ≤ (zup c this 0 (c x1 0)) ((zup c this 0 (c x1 0)) x1 1) (-2) ∧ 0 + 4 ≤ (zup c this 0 (c x1 0)) ((zup c this 0 (c x1 0)) this 1) (-2) then
              if (zcopy (zup c this 0 (c x1 0)) ((zup c this 0 (c x1 0)) x1 1) 0 ((zup c this 0 (c x1 0)) this 1) 0 4) x1 (-1) = 8 then
                if (zcopy (zup c this 0 (c x1 0)) ((zup c this 0 (c x1 0)) x1 1) 0 ((zup c this 0 (c x1 0)) this 1) 0 4) this (-1) = 8 then
                  if (zup (zcopy (zup c this 0 (c x1 0)) ((zup c this 0 (c x1 0)) x1 1) 0 ((zup c this 0 (c x1 0)) this 1) 0 4) this 2 ((zcopy (zup c this 0 (c x1 0)) ((zup c this 0 (c x1 0)) x1 1) 0 ((zup c this 0 (c x1 0)) this 1) 0 4) x1 2)) x1 (-1) = 8 then
                    if (zup (zcopy (zup c this 0 (c x1 0)) ((zup c this 0 (c x1 0)) x1 1) 0 ((zup c this 0 (c x1 0)) this 1) 0 4) this 2 ((zcopy (zup c this 0 (c x1 0)) ((zup c this 0 (c x1 0)) x1 1) 0 ((zup c this 0 (c x1 0)) this 1) 0 4) x1 2)) this (-1) = 8 then
                      some (0, zup (zup (zcopy (zup c this 0 (c x1 0)) ((zup c this 0 (c x1 0)) x1 1) 0 ((zup c this 0 (c x1 0)) this 1) 0 4) this 2 ((zcopy (zup c this 0 (c x1 0)) ((zup c this 0 (c x1 0)) x1 1) 0 ((zup c this 0 (c x1 0)) this 1) 0 4) x1 2)) this 3 ((zup (zcopy (zup c this 0 (c x1 0)) ((zup c this 0 (c x1 0)) x1 1) 0 ((zup c this 0 (c x1 0)) this 1) 0 4) this 2 ((zcopy (zup c this 0 (c x1 0)) ((zup c this 0 (c x1 0)) x1 1) 0 ((zup c this 0 (c x1 0)) this 1) 0 4) x1 2)) x1 3))
                    else none
                  else none
                else none
              else none
            else none
          else none
        else none
      else none
    else none := (zrun_s zt65).trans (zf_X7_copyFrom _ _ this x1 c)
