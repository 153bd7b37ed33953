set_option maxRecDepth 100000 in
theorem zf_X0_init (call : zCall) (K : zK) (this : Int) (c : zC) : zseg zc_X0_init zk_X0_init call K 1000 0 [(2, this)] [] c =
  if this = 0 then none else
    if (znew c 101 43) this (-1) = 1 then
      K 12 [(2, this)] [] (zup (znew c 101 43) this 0 (c 0 0))
    else none := by rfl
theorem ze_X0_init (d : Nat) (this : Int) (c : zC) : zrun zTab (d + 1) 0 [this] c =
  if this = 0 then none else
    if (znew c 101 43) this (-1) = 1 then
      zex zc_X0_init zk_X0_init (zrun zTab d) 19999 12 [(2, this)] [] (zup (znew c 101 43) this 0 (c 0 0))
    else none := (zrun_s zt0).trans (zf_X0_init _ _ this c)
set_option maxRecDepth 100000 in
theorem zf_X0_init_12 (call : zCall) (K : zK) (this : Int) (c : zC) : zseg zc_X0_init zk_X0_init call K 1000 12 [(2, this)] [] c =
  if (znew c 100 43) this (-1) = 1 then
    K 20 [(3, 0)] [] (zup (znew c 100 43) this 1 (c 0 0))
  else none := by rfl
theorem ze_X0_init_12 (d F : Nat) (this : Int) (c : zC) : zex zc_X0_init zk_X0_init (zrun zTab d) (F + 1) 12 [(2, this)] [] c =
  if (znew c 100 43) this (-1) = 1 then
    zex zc_X0_init zk_X0_init (zrun zTab d) F 20 [(3, 0)] [] (zup (znew c 100 43) this 1 (c 0 0))
  else none := zf_X0_init_12 _ _ this c
set_option maxRecDepth 100000 in
theorem zf_X0_init_20 (call : zCall) (K : zK) (c : zC) : zseg zc_X0_init zk_X0_init call K 1000 20 [(3, 0)] [] c =
  some (0, c) := by rfl
theorem ze_X0_init_20 (d F : Nat) (c : zC) : zex zc_X0_init zk_X0_init (zrun zTab d) (F + 1) 20 [(3, 0)] [] c =
  some (0, c) := zf_X0_init_20 _ _ c
set_option maxRecDepth 100000 in
theorem zf_X0_wordAt (call : zCall) (K : zK) (this x1 : Int) (c : zC) : zseg zc_X0_wordAt zk_X0_wordAt call K 1000 0 [(2, this), (0, x1)] [] c =
  if x1 < 0 then
    some (0, c)
  else
    if c this (-1) = 1 then
      if x1 < (c this 2) then
        if c this (-1) = 1 then
          if c (c this 0) (-1) = 101 then
            if x1 < (c (c this 0) (-2)) then
              if c this (-1) = 1 then
                if c (c this 0) (-1) = 101 ∧ (0 : Int) ≤ x1 ∧ x1 < c (c this 0) (-2) then
                  some (c (c this 0) x1, c)
                else none
              else none
            else
              some (0, c)
          else none
        else none
      else
        some (0, c)
    else none := by rfl
theorem ze_X0_wordAt (d : Nat) (this x1 : Int) (c : zC) : zrun zTab (d + 1) 1 [this, x1] c =
  if x1 < 0 then
    some (0, c)
  else
    if c this (-1) = 1 then
      if x1 < (c this 2) then
        if c this (-1) = 1 then
          if c (c this 0) (-1) = 101 then
            if x1 < (c (c this 0) (-2)) then
              if c this (-1) = 1 then
                if c (c this 0) (-1) = 101 ∧ (0 : Int) ≤ x1 ∧ x1 < c (c this 0) (-2) then
                  some (c (c this 0) x1, c)
                else none
              else none
            else
              some (0, c)
          else none
        else none
      else
        some (0, c)
    else none := (zrun_s zt1).trans (zf_X0_wordAt _ _ this x1 c)
set_option maxRecDepth 100000 in
theorem zf_X0_levelAt (call : zCall) (K : zK) (this x1 : Int) (c : zC) : zseg zc_X0_levelAt zk_X0_levelAt call K 1000 0 [(2, this), (0, x1)] [] c =
  if x1 < 0 then
    some ((-5), c)
  else
    if c this (-1) = 1 then
      if x1 < (c this 2) then
        if c this (-1) = 1 then
          if c (c this 1) (-1) = 100 then
            if x1 < (c (c this 1) (-2)) then
              if c this (-1) = 1 then
                if c (c this 1) (-1) = 100 ∧ (0 : Int) ≤ x1 ∧ x1 < c (c this 1) (-2) then
                  some (c (c this 1) x1, c)
                else none
              else none
            else
              some ((-5), c)
          else none
        else none
      else
        some ((-5), c)
    else none := by rfl
theorem ze_X0_levelAt (d : Nat) (this x1 : Int) (c : zC) : zrun zTab (d + 1) 2 [this, x1] c =
  if x1 < 0 then
    some ((-5), c)
  else
    if c this (-1) = 1 then
      if x1 < (c this 2) then
        if c this (-1) = 1 then
          if c (c this 1) (-1) = 100 then
            if x1 < (c (c this 1) (-2)) then
              if c this (-1) = 1 then
                if c (c this 1) (-1) = 100 ∧ (0 : Int) ≤ x1 ∧ x1 < c (c this 1) (-2) then
                  some (c (c this 1) x1, c)
                else none
              else none
            else
              some ((-5), c)
          else none
        else none
      else
        some ((-5), c)
    else none := (zrun_s zt2).trans (zf_X0_levelAt _ _ this x1 c)
set_option maxRecDepth 100000 in
theorem zf_X0_has (call : zCall) (K : zK) (this x1 : Int) (c : zC) : zseg zc_X0_has zk_X0_has call K 1000 0 [(2, this), (1, x1), (3, 0), (3, 0)] [] c =
  K 2 [(2, this), (1, x1), (3, 0), (0, 0)] [] c := by rfl
theorem ze_X0_has (d : Nat) (this x1 : Int) (c : zC) : zrun zTab (d + 1) 3 [this, x1] c =
  zex zc_X0_has zk_X0_has (zrun zTab d) 19999 2 [(2, this), (1, x1), (3, 0), (0, 0)] [] c := (zrun_s zt3).trans (zf_X0_has _ _ this x1 c)
set_option maxRecDepth 100000 in
theorem zf_X0_has_2 (call : zCall) (K : zK) (this x1 x3 : Int) (c : zC) : zseg zc_X0_has zk_X0_has call K 1000 2 [(2, this), (1, x1), (3, 0), (0, x3)] [] c =
  if c this (-1) = 1 then
    if x3 < (c this 2) then
      if c this (-1) = 1 then
        if c (c this 0) (-1) = 101 then
          if x3 < (c (c this 0) (-2)) then
            if c this (-1) = 1 then
              if c (c this 0) (-1) = 101 ∧ (0 : Int) ≤ x3 ∧ x3 < c (c this 0) (-2) then
                if (if x1 < c (c this 0) x3 then 1 else if c (c this 0) x3 = x1 then 0 else -1) = 0 then
                  some (1, c)
                else
                  K 2 [(2, this), (1, x1), (3, 0), (0, zw (x3 + 1))] [] c
              else none
            else none
          else
            some (0, c)
        else none
      else none
    else
      some (0, c)
  else none := by rfl
theorem ze_X0_has_2 (d F : Nat) (this x1 x3 : Int) (c : zC) : zex zc_X0_has zk_X0_has (zrun zTab d) (F + 1) 2 [(2, this), (1, x1), (3, 0), (0, x3)] [] c =
  if c this (-1) = 1 then
    if x3 < (c this 2) then
      if c this (-1) = 1 then
        if c (c this 0) (-1) = 101 then
          if x3 < (c (c this 0) (-2)) then
            if c this (-1) = 1 then
              if c (c this 0) (-1) = 101 ∧ (0 : Int) ≤ x3 ∧ x3 < c (c this 0) (-2) then
                if (if x1 < c (c this 0) x3 then 1 else if c (c this 0) x3 = x1 then 0 else -1) = 0 then
                  some (1, c)
                else
                  zex zc_X0_has zk_X0_has (zrun zTab d) F 2 [(2, this), (1, x1), (3, 0), (0, zw (x3 + 1))] [] c
              else none
            else none
          else
            some (0, c)
        else none
      else none
    else
      some (0, c)
  else none := zf_X0_has_2 _ _ this x1 x3 c
set_option maxRecDepth 100000 in
theorem zf_X0_followFrom (call : zCall) (K : zK) (this x1 x2 : Int) (c : zC) : zseg zc_X0_followFrom zk_X0_followFrom call K 1000 0 [(2, this), (2, x1), (1, x2), (3, 0), (3, 0), (3, 0), (3, 0)] [] c =
  if c this (-1) = 1 then
    if (zup c this 2 0) this (-1) = 1 then
      zbnd (call 5 [this, x2, 0] (zup c this 2 0)) (fun _ c2 =>
        K 14 [(2, this), (2, x1), (3, 0), (3, 0), (0, 0), (3, 0), (3, 0)] [] c2)
    else none
  else none := by rfl
theorem ze_X0_followFrom (d : Nat) (this x1 x2 : Int) (c : zC) : zrun zTab (d + 1) 4 [this, x1, x2] c =
  if c this (-1) = 1 then
    if (zup c this 2 0) this (-1) = 1 then
      zbnd (zrun zTab d 5 [this, x2, 0] (zup c this 2 0)) (fun _ c2 =>
        zex zc_X0_followFrom zk_X0_followFrom (zrun zTab d) 19999 14 [(2, this), (2, x1), (3, 0), (3, 0), (0, 0), (3, 0), (3, 0)] [] c2)
    else none
  else none := (zrun_s zt4).trans (zf_X0_followFrom _ _ this x1 x2 c)
set_option maxRecDepth 100000 in
theorem zf_X0_followFrom_14 (call : zCall) (K : zK) (this x1 x4 : Int) (c : zC) : zseg zc_X0_followFrom zk_X0_followFrom call K 1000 14 [(2, this), (2, x1), (3, 0), (3, 0), (0, x4), (3, 0), (3, 0)] [] c =
  if c this (-1) = 1 then
    if x4 < (c this 2) then
      if c this (-1) = 1 then
        if c (c this 0) (-1) = 101 then
          if x4 < (c (c this 0) (-2)) then
            if c this (-1) = 1 then
              if c (c this 1) (-1) = 100 then
                if x4 < (c (c this 1) (-2)) then
                  K 46 [(2, this), (2, x1), (3, 0), (3, 0), (0, x4), (0, 0), (3, 0)] [] c
                else
                  some (0, c)
              else none
            else none
          else
            some (0, c)
        else none
      else none
    else
      some (0, c)
  else none := by rfl
theorem ze_X0_followFrom_14 (d F : Nat) (this x1 x4 : Int) (c : zC) : zex zc_X0_followFrom zk_X0_followFrom (zrun zTab d) (F + 1) 14 [(2, this), (2, x1), (3, 0), (3, 0), (0, x4), (3, 0), (3, 0)] [] c =
  if c this (-1) = 1 then
    if x4 < (c this 2) then
      if c this (-1) = 1 then
        if c (c this 0) (-1) = 101 then
          if x4 < (c (c this 0) (-2)) then
            if c this (-1) = 1 then
              if c (c this 1) (-1) = 100 then
                if x4 < (c (c this 1) (-2)) then
                  zex zc_X0_followFrom zk_X0_followFrom (zrun zTab d) F 46 [(2, this), (2, x1), (3, 0), (3, 0), (0, x4), (0, 0), (3, 0)] [] c
                else
                  some (0, c)
              else none
            else none
          else
            some (0, c)
        else none
      else none
    else
      some (0, c)
  else none := zf_X0_followFrom_14 _ _ this x1 x4 c
set_option maxRecDepth 100000 in
theorem zf_X0_followFrom_46 (call : zCall) (K : zK) (this x1 x4 x5 : Int) (c : zC) : zseg zc_X0_followFrom zk_X0_followFrom call K 1000 46 [(2, this), (2, x1), (3, 0), (3, 0), (0, x4), (0, x5), (3, 0)] [] c =
  if c this (-1) = 1 then
    if c (c this 1) (-1) = 100 ∧ (0 : Int) ≤ x4 ∧ x4 < c (c this 1) (-2) then
      if (c (c this 1) x4) < 2 then
        if c x1 (-1) = 9 then
          if x5 < (c x1 4) then
            if c x1 (-1) = 9 then
              zbnd (call 69 [x1, x5] c) (fun v1 c2 =>
                if v1 = 0 then
                  K 46 [(2, this), (2, x1), (3, 0), (3, 0), (0, x4), (0, zw (x5 + 1)), (3, 0)] [] c2
                else
                  if c2 this (-1) = 1 then
                    if c2 (c2 this 0) (-1) = 101 ∧ (0 : Int) ≤ x4 ∧ x4 < c2 (c2 this 0) (-2) then
                      if c2 v1 (-1) = 7 then
                        zbnd (call 60 [v1, c2 (c2 this 0) x4] c2) (fun v3 c4 =>
                          if c4 this (-1) = 1 then
                            if c4 (c4 this 1) (-1) = 100 ∧ (0 : Int) ≤ x4 ∧ x4 < c4 (c4 this 1) (-2) then
                              if c4 this (-1) = 1 then
                                zbnd (call 5 [this, v3, zadd (c4 (c4 this 1) x4) 1] c4) (fun _ c6 =>
                                  K 46 [(2, this), (2, x1), (3, 0), (3, 0), (0, x4), (0, zw (x5 + 1)), (3, 0)] [] c6)
                              else none
                            else none
                          else none)
                      else none
                    else none
                  else none)
            else none
          else
            K 14 [(2, this), (2, x1), (3, 0), (3, 0), (0, zw (x4 + 1)), (3, 0), (3, 0)] [] c
        else none
      else
        K 14 [(2, this), (2, x1), (3, 0), (3, 0), (0, zw (x4 + 1)), (3, 0), (3, 0)] [] c
    else none
  else none := by rfl
theorem ze_X0_followFrom_46 (d F : Nat) (this x1 x4 x5 : Int) (c : zC) : zex zc_X0_followFrom zk_X0_followFrom (zrun zTab d) (F + 1) 46 [(2, this), (2, x1), (3, 0), (3, 0), (0, x4), (0, x5), (3, 0)] [] c =
  if c this (-1) = 1 then
    if c (c this 1) (-1) = 100 ∧ (0 : Int) ≤ x4 ∧ x4 < c (c this 1) (-2) then
      if (c (c this 1) x4) < 2 then
        if c x1 (-1) = 9 then
          if x5 < (c x1 4) then
            if c x1 (-1) = 9 then
              zbnd (zrun zTab d 69 [x1, x5] c) (fun v1 c2 =>
                if v1 = 0 then
                  zex zc_X0_followFrom zk_X0_followFrom (zrun zTab d) F 46 [(2, this), (2, x1), (3, 0), (3, 0), (0, x4), (0, zw (x5 + 1)), (3, 0)] [] c2
                else
                  if c2 this (-1) = 1 then
                    if c2 (c2 this 0) (-1) = 101 ∧ (0 : Int) ≤ x4 ∧ x4 < c2 (c2 this 0) (-2) then
                      if c2 v1 (-1) = 7 then
                        zbnd (zrun zTab d 60 [v1, c2 (c2 this 0) x4] c2) (fun v3 c4 =>
                          if c4 this (-1) = 1 then
                            if c4 (c4 this 1) (-1) = 100 ∧ (0 : Int) ≤ x4 ∧ x4 < c4 (c4 this 1) (-2) then
                              if c4 this (-1) = 1 then
                                zbnd (zrun zTab d 5 [this, v3, zadd (c4 (c4 this 1) x4) 1] c4) (fun _ c6 =>
                                  zex zc_X0_followFrom zk_X0_followFrom (zrun zTab d) F 46 [(2, this), (2, x1), (3, 0), (3, 0), (0, x4), (0, zw (x5 + 1)), (3, 0)] [] c6)
                              else none
                            else none
                          else none)
                      else none
                    else none
                  else none)
            else none
          else
            zex zc_X0_followFrom zk_X0_followFrom (zrun zTab d) F 14 [(2, this), (2, x1), (3, 0), (3, 0), (0, zw (x4 + 1)), (3, 0), (3, 0)] [] c
        else none
      else
        zex zc_X0_followFrom zk_X0_followFrom (zrun zTab d) F 14 [(2, this), (2, x1), (3, 0), (3, 0), (0, zw (x4 + 1)), (3, 0), (3, 0)] [] c
    else none
  else none := zf_X0_followFrom_46 _ _ this x1 x4 x5 c
set_option maxRecDepth 100000 in
theorem zf_X0_add (call : zCall) (K : zK) (this x1 x3 : Int) (c : zC) : zseg zc_X0_add zk_X0_add call K 1000 0 [(2, this), (1, x1), (3, 0), (0, x3)] [] c =
  if (if 0 < x1 then 1 else if x1 = 0 then 0 else -1) = 0 then
    some (0, c)
  else
    if c this (-1) = 1 then
      zbnd (call 3 [this, x1] c) (fun v1 c2 =>
        if v1 = 0 then
          if c2 this (-1) = 1 then
            if (c2 this 2) < 0 then
              some (0, c2)
            else
              if c2 this (-1) = 1 then
                if c2 this (-1) = 1 then
                  if c2 (c2 this 0) (-1) = 101 then
                    if (c2 this 2) < (c2 (c2 this 0) (-2)) then
                      if c2 this (-1) = 1 then
                        if c2 this (-1) = 1 then
                          if c2 (c2 this 1) (-1) = 100 then
                            if (c2 this 2) < (c2 (c2 this 1) (-2)) then
                              if c2 this (-1) = 1 then
                                if c2 this (-1) = 1 then
                                  if c2 (c2 this 0) (-1) = 101 ∧ (0 : Int) ≤ (c2 this 2) ∧ (c2 this 2) < c2 (c2 this 0) (-2) then
                                    if (zup c2 (c2 this 0) (c2 this 2) x1) this (-1) = 1 then
                                      if (zup c2 (c2 this 0) (c2 this 2) x1) this (-1) = 1 then
                                        if (zup c2 (c2 this 0) (c2 this 2) x1) ((zup c2 (c2 this 0) (c2 this 2) x1) this 1) (-1) = 100 ∧ (0 : Int) ≤ ((zup c2 (c2 this 0) (c2 this 2) x1) this 2) ∧ ((zup c2 (c2 this 0) (c2 this 2) x1) this 2) < (zup c2 (c2 this 0) (c2 this 2) x1) ((zup c2 (c2 this 0) (c2 this 2) x1) this 1) (-2) then
                                          if (zup (zup c2 (c2 this 0) (c2 this 2) x1) ((zup c2 (c2 this 0) (c2 this 2) x1) this 1) ((zup c2 (c2 this 0) (c2 this 2) x1) this 2) x3) this (-1) = 1 then
                                            if (zup (zup c2 (c2 this 0) (c2 this 2) x1) ((zup c2 (c2 this 0) (c2 this 2) x1) this 1) ((zup c2 (c2 this 0) (c2 this 2) x1) this 2) x3) this (-1) = 1 then
                                              some (0, zup (zup (zup c2 (c2 this 0) (c2 this 2) x1) ((zup c2 (c2 this 0) (c2 this 2) x1) this 1) ((zup c2 (c2 this 0) (c2 this 2) x1) this 2) x3) this 2 (zadd ((zup (zup c2 (c2 this 0) (c2 this 2) x1) ((zup c2 (c2 this 0) (c2 this 2) x1) this 1) ((zup c2 (c2 this 0) (c2 this 2) x1) this 2) x3) this 2) 1))
                                            else none
                                          else none
                                        else none
                                      else none
                                    else none
                                  else none
                                else none
                              else none
                            else
                              some (0, c2)
                          else none
                        else none
                      else none
                    else
                      some (0, c2)
                  else none
                else none
              else none
          else none
        else
          some (0, c2))
    else none := by rfl
theorem ze_X0_add (d : Nat) (this x1 x3 : Int) (c : zC) : zrun zTab (d + 1) 5 [this, x1, x3] c =
  if (if 0 < x1 then 1 else if x1 = 0 then 0 else -1) = 0 then
    some (0, c)
  else
    if c this (-1) = 1 then
      zbnd (zrun zTab d 3 [this, x1] c) (fun v1 c2 =>
        if v1 = 0 then
          if c2 this (-1) = 1 then
            if (c2 this 2) < 0 then
              some (0, c2)
            else
              if c2 this (-1) = 1 then
                if c2 this (-1) = 1 then
                  if c2 (c2 this 0) (-1) = 101 then
                    if (c2 this 2) < (c2 (c2 this 0) (-2)) then
                      if c2 this (-1) = 1 then
                        if c2 this (-1) = 1 then
                          if c2 (c2 this 1) (-1) = 100 then
                            if (c2 this 2) < (c2 (c2 this 1) (-2)) then
                              if c2 this (-1) = 1 then
                                if c2 this (-1) = 1 then
                                  if c2 (c2 this 0) (-1) = 101 ∧ (0 : Int) ≤ (c2 this 2) ∧ (c2 this 2) < c2 (c2 this 0) (-2) then
                                    if (zup c2 (c2 this 0) (c2 this 2) x1) this (-1) = 1 then
                                      if (zup c2 (c2 this 0) (c2 this 2) x1) this (-1) = 1 then
                                        if (zup c2 (c2 this 0) (c2 this 2) x1) ((zup c2 (c2 this 0) (c2 this 2) x1) this 1) (-1) = 100 ∧ (0 : Int) ≤ ((zup c2 (c2 this 0) (c2 this 2) x1) this 2) ∧ ((zup c2 (c2 this 0) (c2 this 2) x1) this 2) < (zup c2 (c2 this 0) (c2 this 2) x1) ((zup c2 (c2 this 0) (c2 this 2) x1) this 1) (-2) then
                                          if (zup (zup c2 (c2 this 0) (c2 this 2) x1) ((zup c2 (c2 this 0) (c2 this 2) x1) this 1) ((zup c2 (c2 this 0) (c2 this 2) x1) this 2) x3) this (-1) = 1 then
                                            if (zup (zup c2 (c2 this 0) (c2 this 2) x1) ((zup c2 (c2 this 0) (c2 this 2) x1) this 1) ((zup c2 (c2 this 0) (c2 this 2) x1) this 2) x3) this (-1) = 1 then
                                              some (0, zup (zup (zup c2 (c2 this 0) (c2 this 2) x1) ((zup c2 (c2 this 0) (c2 this 2) x1) this 1) ((zup c2 (c2 this 0) (c2 this 2) x1) this 2) x3) this 2 (zadd ((zup (zup c2 (c2 this 0) (c2 this 2) x1) ((zup c2 (c2 this 0) (c2 this 2) x1) this 1) ((zup c2 (c2 this 0) (c2 this 2) x1) this 2) x3) this 2) 1))
                                            else none
                                          else none
                                        else none
                                      else none
                                    else none
                                  else none
                                else none
                              else none
                            else
                              some (0, c2)
                          else none
                        else none
                      else none
                    else
                      some (0, c2)
                  else none
                else none
              else none
          else none
        else
          some (0, c2))
    else none := (zrun_s zt5).trans (zf_X0_add _ _ this x1 x3 c)
