set_option maxRecDepth 100000 in
theorem zf_X2_init (call : zCall) (K : zK) (this : Int) (c : zC) : zseg zc_X2_init zk_X2_init call K 1000 0 [(2, this), (3, 0)] [] c =
  if this = 0 then none else
    if (znew c 118 8) this (-1) = 3 then
      K 13 [(2, this), (3, 0)] [] (zup (znew c 118 8) this 0 (c 0 0))
    else none := by rfl
theorem ze_X2_init (d : Nat) (this : Int) (c : zC) : zrun zTab (d + 1) 10 [this] c =
  if this = 0 then none else
    if (znew c 118 8) this (-1) = 3 then
      zex zc_X2_init zk_X2_init (zrun zTab d) 19999 13 [(2, this), (3, 0)] [] (zup (znew c 118 8) this 0 (c 0 0))
    else none := (zrun_s zt10).trans (zf_X2_init _ _ this c)
set_option maxRecDepth 100000 in
theorem zf_X2_init_13 (call : zCall) (K : zK) (this : Int) (c : zC) : zseg zc_X2_init zk_X2_init call K 1000 13 [(2, this), (3, 0)] [] c =
  K 15 [(2, this), (0, 0)] [] c := by rfl
theorem ze_X2_init_13 (d F : Nat) (this : Int) (c : zC) : zex zc_X2_init zk_X2_init (zrun zTab d) (F + 1) 13 [(2, this), (3, 0)] [] c =
  zex zc_X2_init zk_X2_init (zrun zTab d) F 15 [(2, this), (0, 0)] [] c := zf_X2_init_13 _ _ this c
set_option maxRecDepth 100000 in
theorem zf_X2_init_15 (call : zCall) (K : zK) (this x1 : Int) (c : zC) : zseg zc_X2_init zk_X2_init call K 1000 15 [(2, this), (0, x1)] [] c =
  if c this (-1) = 3 then
    if c (c this 0) (-1) = 118 then
      if x1 < (c (c this 0) (-2)) then
        if c this (-1) = 3 then
          if (znew c 9 7) (c 0 0) (-1) = 9 then
            zbnd (call 66 [c 0 0] (znew c 9 7)) (fun _ c2 =>
              if c2 (c this 0) (-1) = 118 ∧ (0 : Int) ≤ x1 ∧ x1 < c2 (c this 0) (-2) then
                if c2 (c 0 0) (-1) = 9 then
                  K 15 [(2, this), (0, zw (x1 + 1))] [] (zup c2 (c this 0) x1 (c 0 0))
                else none
              else none)
          else none
        else none
      else
        some (0, c)
    else none
  else none := by rfl
theorem ze_X2_init_15 (d F : Nat) (this x1 : Int) (c : zC) : zex zc_X2_init zk_X2_init (zrun zTab d) (F + 1) 15 [(2, this), (0, x1)] [] c =
  if c this (-1) = 3 then
    if c (c this 0) (-1) = 118 then
      if x1 < (c (c this 0) (-2)) then
        if c this (-1) = 3 then
          if (znew c 9 7) (c 0 0) (-1) = 9 then
            zbnd (zrun zTab d 66 [c 0 0] (znew c 9 7)) (fun _ c2 =>
              if c2 (c this 0) (-1) = 118 ∧ (0 : Int) ≤ x1 ∧ x1 < c2 (c this 0) (-2) then
                if c2 (c 0 0) (-1) = 9 then
                  zex zc_X2_init zk_X2_init (zrun zTab d) F 15 [(2, this), (0, zw (x1 + 1))] [] (zup c2 (c this 0) x1 (c 0 0))
                else none
              else none)
          else none
        else none
      else
        some (0, c)
    else none
  else none := zf_X2_init_15 _ _ this x1 c
set_option maxRecDepth 100000 in
theorem zf_X2_keep (call : zCall) (K : zK) (this x1 : Int) (c : zC) : zseg zc_X2_keep zk_X2_keep call K 1000 0 [(2, this), (2, x1), (3, 0)] [] c =
  if c this (-1) = 3 then
    if c this (-1) = 3 then
      if c (c this 0) (-1) = 118 then
        if (c this 1) < (c (c this 0) (-2)) then
          K 16 [(2, this), (2, x1), (3, 0)] [] c
        else
          if c this (-1) = 3 then
            zbnd (call 12 [this] c) (fun _ c2 =>
              K 16 [(2, this), (2, x1), (3, 0)] [] c2)
          else none
      else none
    else none
  else none := by rfl
theorem ze_X2_keep (d : Nat) (this x1 : Int) (c : zC) : zrun zTab (d + 1) 11 [this, x1] c =
  if c this (-1) = 3 then
    if c this (-1) = 3 then
      if c (c this 0) (-1) = 118 then
        if (c this 1) < (c (c this 0) (-2)) then
          zex zc_X2_keep zk_X2_keep (zrun zTab d) 19999 16 [(2, this), (2, x1), (3, 0)] [] c
        else
          if c this (-1) = 3 then
            zbnd (zrun zTab d 12 [this] c) (fun _ c2 =>
              zex zc_X2_keep zk_X2_keep (zrun zTab d) 19999 16 [(2, this), (2, x1), (3, 0)] [] c2)
          else none
      else none
    else none
  else none := (zrun_s zt11).trans (zf_X2_keep _ _ this x1 c)
set_option maxRecDepth 100000 in
theorem zf_X2_keep_16 (call : zCall) (K : zK) (this x1 : Int) (c : zC) : zseg zc_X2_keep zk_X2_keep call K 1000 16 [(2, this), (2, x1), (3, 0)] [] c =
  if c this (-1) = 3 then
    if (c this 1) < 0 then
      K 47 [(2, this), (2, x1), (3, 0)] [] c
    else
      if c this (-1) = 3 then
        if c this (-1) = 3 then
          if c (c this 0) (-1) = 118 then
            if (c this 1) < (c (c this 0) (-2)) then
              if c this (-1) = 3 then
                if c this (-1) = 3 then
                  if c (c this 0) (-1) = 118 ∧ (0 : Int) ≤ (c this 1) ∧ (c this 1) < c (c this 0) (-2) then
                    if (c (c this 0) (c this 1)) = 0 then
                      some (0, c)
                    else
                      if c (c (c this 0) (c this 1)) (-1) = 9 then
                        zbnd (call 75 [c (c this 0) (c this 1), x1] c) (fun _ c2 =>
                          if c2 this (-1) = 3 then
                            if c2 this (-1) = 3 then
                              some (0, zup c2 this 1 (zadd (c2 this 1) 1))
                            else none
                          else none)
                      else none
                  else none
                else none
              else none
            else
              K 47 [(2, this), (2, x1), (3, 0)] [] c
          else none
        else none
      else none
  else none := by rfl
theorem ze_X2_keep_16 (d F : Nat) (this x1 : Int) (c : zC) : zex zc_X2_keep zk_X2_keep (zrun zTab d) (F + 1) 16 [(2, this), (2, x1), (3, 0)] [] c =
  if c this (-1) = 3 then
    if (c this 1) < 0 then
      zex zc_X2_keep zk_X2_keep (zrun zTab d) F 47 [(2, this), (2, x1), (3, 0)] [] c
    else
      if c this (-1) = 3 then
        if c this (-1) = 3 then
          if c (c this 0) (-1) = 118 then
            if (c this 1) < (c (c this 0) (-2)) then
              if c this (-1) = 3 then
                if c this (-1) = 3 then
                  if c (c this 0) (-1) = 118 ∧ (0 : Int) ≤ (c this 1) ∧ (c this 1) < c (c this 0) (-2) then
                    if (c (c this 0) (c this 1)) = 0 then
                      some (0, c)
                    else
                      if c (c (c this 0) (c this 1)) (-1) = 9 then
                        zbnd (zrun zTab d 75 [c (c this 0) (c this 1), x1] c) (fun _ c2 =>
                          if c2 this (-1) = 3 then
                            if c2 this (-1) = 3 then
                              some (0, zup c2 this 1 (zadd (c2 this 1) 1))
                            else none
                          else none)
                      else none
                  else none
                else none
              else none
            else
              zex zc_X2_keep zk_X2_keep (zrun zTab d) F 47 [(2, this), (2, x1), (3, 0)] [] c
          else none
        else none
      else none
  else none := zf_X2_keep_16 _ _ this x1 c
set_option maxRecDepth 100000 in
theorem zf_X2_keep_47 (call : zCall) (K : zK) (this x1 : Int) (c : zC) : zseg zc_X2_keep zk_X2_keep call K 1000 47 [(2, this), (2, x1), (3, 0)] [] c =
  if 0 = 0 then
    some (0, c)
  else
    if c 0 (-1) = 9 then
      zbnd (call 75 [0, x1] c) (fun _ c2 =>
        if c2 this (-1) = 3 then
          if c2 this (-1) = 3 then
            some (0, zup c2 this 1 (zadd (c2 this 1) 1))
          else none
        else none)
    else none := by rfl
theorem ze_X2_keep_47 (d F : Nat) (this x1 : Int) (c : zC) : zex zc_X2_keep zk_X2_keep (zrun zTab d) (F + 1) 47 [(2, this), (2, x1), (3, 0)] [] c =
  if 0 = 0 then
    some (0, c)
  else
    if c 0 (-1) = 9 then
      zbnd (zrun zTab d 75 [0, x1] c) (fun _ c2 =>
        if c2 this (-1) = 3 then
          if c2 this (-1) = 3 then
            some (0, zup c2 this 1 (zadd (c2 this 1) 1))
          else none
        else none)
    else none := zf_X2_keep_47 _ _ this x1 c
set_option maxRecDepth 100000 in
theorem zf_X2_dropOldest (call : zCall) (K : zK) (this : Int) (c : zC) : zseg zc_X2_dropOldest zk_X2_dropOldest call K 1000 0 [(2, this), (3, 0), (3, 0)] [] c =
  if c this (-1) = 3 then
    if c (c this 0) (-1) = 118 then
      if (c (c this 0) (-2)) < 1 then
        some (0, c)
      else
        if c this (-1) = 3 then
          if c (c this 0) (-1) = 118 ∧ (0 : Int) ≤ 0 ∧ 0 < c (c this 0) (-2) then
            K 19 [(2, this), (2, c (c this 0) 0), (0, 0)] [] c
          else none
        else none
    else none
  else none := by rfl
theorem ze_X2_dropOldest (d : Nat) (this : Int) (c : zC) : zrun zTab (d + 1) 12 [this] c =
  if c this (-1) = 3 then
    if c (c this 0) (-1) = 118 then
      if (c (c this 0) (-2)) < 1 then
        some (0, c)
      else
        if c this (-1) = 3 then
          if c (c this 0) (-1) = 118 ∧ (0 : Int) ≤ 0 ∧ 0 < c (c this 0) (-2) then
            zex zc_X2_dropOldest zk_X2_dropOldest (zrun zTab d) 19999 19 [(2, this), (2, c (c this 0) 0), (0, 0)] [] c
          else none
        else none
    else none
  else none := (zrun_s zt12).trans (zf_X2_dropOldest _ _ this c)
set_option maxRecDepth 100000 in
theorem zf_X2_dropOldest_19 (call : zCall) (K : zK) (this x1 x2 : Int) (c : zC) : zseg zc_X2_dropOldest zk_X2_dropOldest call K 1000 19 [(2, this), (2, x1), (0, x2)] [] c =
  if c this (-1) = 3 then
    if c (c this 0) (-1) = 118 then
      if (zadd x2 1) < (c (c this 0) (-2)) then
        if c this (-1) = 3 then
          if c this (-1) = 3 then
            if c (c this 0) (-1) = 118 ∧ (0 : Int) ≤ (zadd x2 1) ∧ (zadd x2 1) < c (c this 0) (-2) then
              if c (c this 0) (-1) = 118 ∧ (0 : Int) ≤ x2 ∧ x2 < c (c this 0) (-2) then
                if c (c (c this 0) (zadd x2 1)) (-1) = 9 then
                  K 19 [(2, this), (2, x1), (0, zw (x2 + 1))] [] (zup c (c this 0) x2 (c (c this 0) (zadd x2 1)))
                else none
              else none
            else none
          else none
        else none
      else
        if c this (-1) = 3 then
          if c this (-1) = 3 then
            if c (c this 0) (-1) = 118 then
              if c (c this 0) (-1) = 118 ∧ (0 : Int) ≤ (zsub (c (c this 0) (-2)) 1) ∧ (zsub (c (c this 0) (-2)) 1) < c (c this 0) (-2) then
                if c x1 (-1) = 9 then
                  if (zup c (c this 0) (zsub (c (c this 0) (-2)) 1) x1) this (-1) = 3 then
                    if (zup c (c this 0) (zsub (c (c this 0) (-2)) 1) x1) ((zup c (c this 0) (zsub (c (c this 0) (-2)) 1) x1) this 0) (-1) = 118 then
                      if (zup c (c this 0) (zsub (c (c this 0) (-2)) 1) x1) this (-1) = 3 then
                        some (0, zup (zup c (c this 0) (zsub (c (c this 0) (-2)) 1) x1) this 1 (zsub ((zup c (c this 0) (zsub (c (c this 0) (-2)) 1) x1) ((zup c (c this 0) (zsub (c (c this 0) (-2)) 1) x1) this 0) (-2)) 1))
                      else none
                    else none
                  else none
                else none
              else none
            else none
          else none
        else none
    else none
  else none := by rfl
theorem ze_X2_dropOldest_19 (d F : Nat) (this x1 x2 : Int) (c : zC) : zex zc_X2_dropOldest zk_X2_dropOldest (zrun zTab d) (F + 1) 19 [(2, this), (2, x1), (0, x2)] [] c =
  if c this (-1) = 3 then
    if c (c this 0) (-1) = 118 then
      if (zadd x2 1) < (c (c this 0) (-2)) then
        if c this (-1) = 3 then
          if c this (-1) = 3 then
            if c (c this 0) (-1) = 118 ∧ (0 : Int) ≤ (zadd x2 1) ∧ (zadd x2 1) < c (c this 0) (-2) then
              if c (c this 0) (-1) = 118 ∧ (0 : Int) ≤ x2 ∧ x2 < c (c this 0) (-2) then
                if c (c (c this 0) (zadd x2 1)) (-1) = 9 then
                  zex zc_X2_dropOldest zk_X2_dropOldest (zrun zTab d) F 19 [(2, this), (2, x1), (0, zw (x2 + 1))] [] (zup c (c this 0) x2 (c (c this 0) (zadd x2 1)))
                else none
              else none
            else none
          else none
        else none
      else
        if c this (-1) = 3 then
          if c this (-1) = 3 then
            if c (c this 0) (-1) = 118 then
              if c (c this 0) (-1) = 118 ∧ (0 : Int) ≤ (zsub (c (c this 0) (-2)) 1) ∧ (zsub (c (c this 0) (-2)) 1) < c (c this 0) (-2) then
                if c x1 (-1) = 9 then
                  if (zup c (c this 0) (zsub (c (c this 0) (-2)) 1) x1) this (-1) = 3 then
                    if (zup c (c this 0) (zsub (c (c this 0) (-2)) 1) x1) ((zup c (c this 0) (zsub (c (c this 0) (-2)) 1) x1) this 0) (-1) = 118 then
                      if (zup c (c this 0) (zsub (c (c this 0) (-2)) 1) x1) this (-1) = 3 then
                        some (0, zup (zup c (c this 0) (zsub (c (c this 0) (-2)) 1) x1) this 1 (zsub ((zup c (c this 0) (zsub (c (c this 0) (-2)) 1) x1) ((zup c (c this 0) (zsub (c (c this 0) (-2)) 1) x1) this 0) (-2)) 1))
                      else none
                    else none
                  else none
                else none
              else none
            else none
          else none
        else none
    else none
  else none := zf_X2_dropOldest_19 _ _ this x1 x2 c
set_option maxRecDepth 100000 in
theorem zf_X2_takeLatest (call : zCall) (K : zK) (this x1 : Int) (c : zC) : zseg zc_X2_takeLatest zk_X2_takeLatest call K 1000 0 [(2, this), (2, x1)] [] c =
  if x1 = 0 then
    some (0, c)
  else
    if c this (-1) = 3 then
      if (c this 1) < 1 then
        some (0, c)
      else
        if c this (-1) = 3 then
          if c this (-1) = 3 then
            if c (c this 0) (-1) = 118 then
              if (c this 1) ≤ (c (c this 0) (-2)) then
                if c this (-1) = 3 then
                  if c this (-1) = 3 then
                    if (zup c this 1 (zsub (c this 1) 1)) this (-1) = 3 then
                      if (zup c this 1 (zsub (c this 1) 1)) this (-1) = 3 then
                        if (zup c this 1 (zsub (c this 1) 1)) ((zup c this 1 (zsub (c this 1) 1)) this 0) (-1) = 118 ∧ (0 : Int) ≤ ((zup c this 1 (zsub (c this 1) 1)) this 1) ∧ ((zup c this 1 (zsub (c this 1) 1)) this 1) < (zup c this 1 (zsub (c this 1) 1)) ((zup c this 1 (zsub (c this 1) 1)) this 0) (-2) then
                          if (zup c this 1 (zsub (c this 1) 1)) x1 (-1) = 9 then
                            zbnd (call 75 [x1, (zup c this 1 (zsub (c this 1) 1)) ((zup c this 1 (zsub (c this 1) 1)) this 0) ((zup c this 1 (zsub (c this 1) 1)) this 1)] (zup c this 1 (zsub (c this 1) 1))) (fun _ c2 =>
                              some (0, c2))
                          else none
                        else none
                      else none
                    else none
                  else none
                else none
              else
                some (0, c)
            else none
          else none
        else none
    else none := by rfl
theorem ze_X2_takeLatest (d : Nat) (this x1 : Int) (c : zC) : zrun zTab (d + 1) 13 [this, x1] c =
  if x1 = 0 then
    some (0, c)
  else
    if c this (-1) = 3 then
      if (c this 1) < 1 then
        some (0, c)
      else
        if c this (-1) = 3 then
          if c this (-1) = 3 then
            if c (c this 0) (-1) = 118 then
              if (c this 1) ≤ (c (c this 0) (-2)) then
                if c this (-1) = 3 then
                  if c this (-1) = 3 then
                    if (zup c this 1 (zsub (c this 1) 1)) this (-1) = 3 then
                      if (zup c this 1 (zsub (c this 1) 1)) this (-1) = 3 then
                        if (zup c this 1 (zsub (c this 1) 1)) ((zup c this 1 (zsub (c this 1) 1)) this 0) (-1) = 118 ∧ (0 : Int) ≤ ((zup c this 1 (zsub (c this 1) 1)) this 1) ∧ ((zup c this 1 (zsub (c this 1) 1)) this 1) < (zup c this 1 (zsub (c this 1) 1)) ((zup c this 1 (zsub (c this 1) 1)) this 0) (-2) then
                          if (zup c this 1 (zsub (c this 1) 1)) x1 (-1) = 9 then
                            zbnd (zrun zTab d 75 [x1, (zup c this 1 (zsub (c this 1) 1)) ((zup c this 1 (zsub (c this 1) 1)) this 0) ((zup c this 1 (zsub (c this 1) 1)) this 1)] (zup c this 1 (zsub (c this 1) 1))) (fun _ c2 =>
                              some (0, c2))
                          else none
                        else none
                      else none
                    else none
                  else none
                else none
              else
                some (0, c)
            else none
          else none
        else none
    else none := (zrun_s zt13).trans (zf_X2_takeLatest _ _ this x1 c)
