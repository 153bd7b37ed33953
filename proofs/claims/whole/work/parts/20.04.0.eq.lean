set_option maxRecDepth 100000 in
theorem zf_X4_init (call : zCall) (K : zK) (this : Int) (c : zC) : zseg zc_X4_init zk_X4_init call K 1000 0 [(2, this)] [] c =
  if this = 0 then none else
    if (znew c 101 20) this (-1) = 5 then
      K 12 [(2, this)] [] (zup (znew c 101 20) this 0 (c 0 0))
    else none := by rfl
theorem ze_X4_init (d : Nat) (this : Int) (c : zC) : zrun zTab (d + 1) 41 [this] c =
  if this = 0 then none else
    if (znew c 101 20) this (-1) = 5 then
      zex zc_X4_init zk_X4_init (zrun zTab d) 19999 12 [(2, this)] [] (zup (znew c 101 20) this 0 (c 0 0))
    else none := (zrun_s zt41).trans (zf_X4_init _ _ this c)
set_option maxRecDepth 100000 in
theorem zf_X4_init_12 (call : zCall) (K : zK) (this : Int) (c : zC) : zseg zc_X4_init zk_X4_init call K 1000 12 [(2, this)] [] c =
  if (znew c 100 20) this (-1) = 5 then
    K 20 [(2, this)] [] (zup (znew c 100 20) this 1 (c 0 0))
  else none := by rfl
theorem ze_X4_init_12 (d F : Nat) (this : Int) (c : zC) : zex zc_X4_init zk_X4_init (zrun zTab d) (F + 1) 12 [(2, this)] [] c =
  if (znew c 100 20) this (-1) = 5 then
    zex zc_X4_init zk_X4_init (zrun zTab d) F 20 [(2, this)] [] (zup (znew c 100 20) this 1 (c 0 0))
  else none := zf_X4_init_12 _ _ this c
set_option maxRecDepth 100000 in
theorem zf_X4_init_20 (call : zCall) (K : zK) (this : Int) (c : zC) : zseg zc_X4_init zk_X4_init call K 1000 20 [(2, this)] [] c =
  if c this (-1) = 5 then
    K 26 [(3, 0)] [] (zup c this 3 20)
  else none := by rfl
theorem ze_X4_init_20 (d F : Nat) (this : Int) (c : zC) : zex zc_X4_init zk_X4_init (zrun zTab d) (F + 1) 20 [(2, this)] [] c =
  if c this (-1) = 5 then
    zex zc_X4_init zk_X4_init (zrun zTab d) F 26 [(3, 0)] [] (zup c this 3 20)
  else none := zf_X4_init_20 _ _ this c
set_option maxRecDepth 100000 in
theorem zf_X4_init_26 (call : zCall) (K : zK) (c : zC) : zseg zc_X4_init zk_X4_init call K 1000 26 [(3, 0)] [] c =
  some (0, c) := by rfl
theorem ze_X4_init_26 (d F : Nat) (c : zC) : zex zc_X4_init zk_X4_init (zrun zTab d) (F + 1) 26 [(3, 0)] [] c =
  some (0, c) := zf_X4_init_26 _ _ c
set_option maxRecDepth 100000 in
theorem zf_X4_wordAt (call : zCall) (K : zK) (this x1 : Int) (c : zC) : zseg zc_X4_wordAt zk_X4_wordAt call K 1000 0 [(2, this), (0, x1)] [] c =
  if x1 < 0 then
    some (0, c)
  else
    if c this (-1) = 5 then
      if x1 < (c this 2) then
        if c this (-1) = 5 then
          if c (c this 0) (-1) = 101 then
            if x1 < (c (c this 0) (-2)) then
              if c this (-1) = 5 then
                if c (c this 0) (-1) = 101 ∧ (0 : Int) ≤ x1 ∧ x1 < c (c this 0) (-2) then
                  some (c (c this 0) x1, c)
                else none
              else none
            else
              some (0, c)
          else none
        else none
      else
        some (0, c)
    else none := by rfl
theorem ze_X4_wordAt (d : Nat) (this x1 : Int) (c : zC) : zrun zTab (d + 1) 42 [this, x1] c =
  if x1 < 0 then
    some (0, c)
  else
    if c this (-1) = 5 then
      if x1 < (c this 2) then
        if c this (-1) = 5 then
          if c (c this 0) (-1) = 101 then
            if x1 < (c (c this 0) (-2)) then
              if c this (-1) = 5 then
                if c (c this 0) (-1) = 101 ∧ (0 : Int) ≤ x1 ∧ x1 < c (c this 0) (-2) then
                  some (c (c this 0) x1, c)
                else none
              else none
            else
              some (0, c)
          else none
        else none
      else
        some (0, c)
    else none := (zrun_s zt42).trans (zf_X4_wordAt _ _ this x1 c)
set_option maxRecDepth 100000 in
theorem zf_X4_sectionAt (call : zCall) (K : zK) (this x1 : Int) (c : zC) : zseg zc_X4_sectionAt zk_X4_sectionAt call K 1000 0 [(2, this), (0, x1)] [] c =
  if x1 < 0 then
    some (0, c)
  else
    if c this (-1) = 5 then
      if x1 < (c this 2) then
        if c this (-1) = 5 then
          if c (c this 1) (-1) = 100 then
            if x1 < (c (c this 1) (-2)) then
              if c this (-1) = 5 then
                if c (c this 1) (-1) = 100 ∧ (0 : Int) ≤ x1 ∧ x1 < c (c this 1) (-2) then
                  some (c (c this 1) x1, c)
                else none
              else none
            else
              some (0, c)
          else none
        else none
      else
        some (0, c)
    else none := by rfl
theorem ze_X4_sectionAt (d : Nat) (this x1 : Int) (c : zC) : zrun zTab (d + 1) 43 [this, x1] c =
  if x1 < 0 then
    some (0, c)
  else
    if c this (-1) = 5 then
      if x1 < (c this 2) then
        if c this (-1) = 5 then
          if c (c this 1) (-1) = 100 then
            if x1 < (c (c this 1) (-2)) then
              if c this (-1) = 5 then
                if c (c this 1) (-1) = 100 ∧ (0 : Int) ≤ x1 ∧ x1 < c (c this 1) (-2) then
                  some (c (c this 1) x1, c)
                else none
              else none
            else
              some (0, c)
          else none
        else none
      else
        some (0, c)
    else none := (zrun_s zt43).trans (zf_X4_sectionAt _ _ this x1 c)
set_option maxRecDepth 100000 in
theorem zf_X4_sectionCount (call : zCall) (K : zK) (this : Int) (c : zC) : zseg zc_X4_sectionCount zk_X4_sectionCount call K 1000 0 [(2, this)] [] c =
  if c this (-1) = 5 then
    if (c this 2) < 1 then
      some (0, c)
    else
      if c this (-1) = 5 then
        if c this (-1) = 5 then
          zbnd (call 43 [this, zsub (c this 2) 1] c) (fun v1 c2 =>
            some (zadd v1 1, c2))
        else none
      else none
  else none := by rfl
theorem ze_X4_sectionCount (d : Nat) (this : Int) (c : zC) : zrun zTab (d + 1) 44 [this] c =
  if c this (-1) = 5 then
    if (c this 2) < 1 then
      some (0, c)
    else
      if c this (-1) = 5 then
        if c this (-1) = 5 then
          zbnd (zrun zTab d 43 [this, zsub (c this 2) 1] c) (fun v1 c2 =>
            some (zadd v1 1, c2))
        else none
      else none
  else none := (zrun_s zt44).trans (zf_X4_sectionCount _ _ this c)
set_option maxRecDepth 100000 in
theorem zf_X4_addWord (call : zCall) (K : zK) (this x1 x3 : Int) (c : zC) : zseg zc_X4_addWord zk_X4_addWord call K 1000 0 [(2, this), (1, x1), (3, 0), (0, x3)] [] c =
  if c this (-1) = 5 then
    if (c this 2) < 0 then
      some (0, c)
    else
      if c this (-1) = 5 then
        if c this (-1) = 5 then
          if c (c this 0) (-1) = 101 then
            if (c this 2) < (c (c this 0) (-2)) then
              if c this (-1) = 5 then
                if c this (-1) = 5 then
                  if c (c this 1) (-1) = 100 then
                    if (c this 2) < (c (c this 1) (-2)) then
                      if c this (-1) = 5 then
                        if c this (-1) = 5 then
                          if c (c this 0) (-1) = 101 ∧ (0 : Int) ≤ (c this 2) ∧ (c this 2) < c (c this 0) (-2) then
                            if (zup c (c this 0) (c this 2) x1) this (-1) = 5 then
                              if (zup c (c this 0) (c this 2) x1) this (-1) = 5 then
                                if (zup c (c this 0) (c this 2) x1) ((zup c (c this 0) (c this 2) x1) this 1) (-1) = 100 ∧ (0 : Int) ≤ ((zup c (c this 0) (c this 2) x1) this 2) ∧ ((zup c (c this 0) (c this 2) x1) this 2) < (zup c (c this 0) (c this 2) x1) ((zup c (c this 0) (c this 2) x1) this 1) (-2) then
                                  if (zup (zup c (c this 0) (c this 2) x1) ((zup c (c this 0) (c this 2) x1) this 1) ((zup c (c this 0) (c this 2) x1) this 2) x3) this (-1) = 5 then
                                    if (zup (zup c (c this 0) (c this 2) x1) ((zup c (c this 0) (c this 2) x1) this 1) ((zup c (c this 0) (c this 2) x1) this 2) x3) this (-1) = 5 then
                                      some (0, zup (zup (zup c (c this 0) (c this 2) x1) ((zup c (c this 0) (c this 2) x1) this 1) ((zup c (c this 0) (c this 2) x1) this 2) x3) this 2 (zadd ((zup (zup c (c this 0) (c this 2) x1) ((zup c (c this 0) (c this 2) x1) this 1) ((zup c (c this 0) (c this 2) x1) this 2) x3) this 2) 1))
                                    else none
                                  else none
                                else none
                              else none
                            else none
                          else none
                        else none
                      else none
                    else
                      some (0, c)
                  else none
                else none
              else none
            else
              some (0, c)
          else none
        else none
      else none
  else none := by rfl
theorem ze_X4_addWord (d : Nat) (this x1 x3 : Int) (c : zC) : zrun zTab (d + 1) 45 [this, x1, x3] c =
  if c this (-1) = 5 then
    if (c this 2) < 0 then
      some (0, c)
    else
      if c this (-1) = 5 then
        if c this (-1) = 5 then
          if c (c this 0) (-1) = 101 then
            if (c this 2) < (c (c this 0) (-2)) then
              if c this (-1) = 5 then
                if c this (-1) = 5 then
                  if c (c this 1) (-1) = 100 then
                    if (c this 2) < (c (c this 1) (-2)) then
                      if c this (-1) = 5 then
                        if c this (-1) = 5 then
                          if c (c this 0) (-1) = 101 ∧ (0 : Int) ≤ (c this 2) ∧ (c this 2) < c (c this 0) (-2) then
                            if (zup c (c this 0) (c this 2) x1) this (-1) = 5 then
                              if (zup c (c this 0) (c this 2) x1) this (-1) = 5 then
                                if (zup c (c this 0) (c this 2) x1) ((zup c (c this 0) (c this 2) x1) this 1) (-1) = 100 ∧ (0 : Int) ≤ ((zup c (c this 0) (c this 2) x1) this 2) ∧ ((zup c (c this 0) (c this 2) x1) this 2) < (zup c (c this 0) (c this 2) x1) ((zup c (c this 0) (c this 2) x1) this 1) (-2) then
                                  if (zup (zup c (c this 0) (c this 2) x1) ((zup c (c this 0) (c this 2) x1) this 1) ((zup c (c this 0) (c this 2) x1) this 2) x3) this (-1) = 5 then
                                    if (zup (zup c (c this 0) (c this 2) x1) ((zup c (c this 0) (c this 2) x1) this 1) ((zup c (c this 0) (c this 2) x1) this 2) x3) this (-1) = 5 then
                                      some (0, zup (zup (zup c (c this 0) (c this 2) x1) ((zup c (c this 0) (c this 2) x1) this 1) ((zup c (c this 0) (c this 2) x1) this 2) x3) this 2 (zadd ((zup (zup c (c this 0) (c this 2) x1) ((zup c (c this 0) (c this 2) x1) this 1) ((zup c (c this 0) (c this 2) x1) this 2) x3) this 2) 1))
                                    else none
                                  else none
                                else none
                              else none
                            else none
                          else none
                        else none
                      else none
                    else
                      some (0, c)
                  else none
                else none
              else none
            else
              some (0, c)
          else none
        else none
      else none
  else none := (zrun_s zt45).trans (zf_X4_addWord _ _ this x1 x3 c)
set_option maxRecDepth 100000 in
theorem zf_X4_insertWord (call : zCall) (K : zK) (this x1 x2 : Int) (c : zC) : zseg zc_X4_insertWord zk_X4_insertWord call K 1000 0 [(2, this), (0, x1), (1, x2), (3, 0), (3, 0), (3, 0)] [] c =
  if x1 < 0 then
    some (0, c)
  else
    if c this (-1) = 5 then
      if x1 ≤ (c this 2) then
        if c this (-1) = 5 then
          if c this (-1) = 5 then
            if c (c this 0) (-1) = 101 then
              if (c this 2) < (c (c this 0) (-2)) then
                if c this (-1) = 5 then
                  if c this (-1) = 5 then
                    if c (c this 1) (-1) = 100 then
                      if (c this 2) < (c (c this 1) (-2)) then
                        if c this (-1) = 5 then
                          if x1 < (c this 2) then
                            if c this (-1) = 5 then
                              zbnd (call 43 [this, x1] c) (fun v1 c2 =>
                                if c2 this (-1) = 5 then
                                  K 71 [(2, this), (0, x1), (1, x2), (3, 0), (0, v1), (0, c2 this 2)] [] c2
                                else none)
                            else none
                          else
                            if c this (-1) = 5 then
                              if c this (-1) = 5 then
                                zbnd (call 43 [this, zsub (c this 2) 1] c) (fun v3 c4 =>
                                  if c4 this (-1) = 5 then
                                    K 71 [(2, this), (0, x1), (1, x2), (3, 0), (0, v3), (0, c4 this 2)] [] c4
                                  else none)
                              else none
                            else none
                        else none
                      else
                        some (0, c)
                    else none
                  else none
                else none
              else
                some (0, c)
            else none
          else none
        else none
      else
        some (0, c)
    else none := by rfl
theorem ze_X4_insertWord (d : Nat) (this x1 x2 : Int) (c : zC) : zrun zTab (d + 1) 46 [this, x1, x2] c =
  if x1 < 0 then
    some (0, c)
  else
    if c this (-1) = 5 then
      if x1 ≤ (c this 2) then
        if c this (-1) = 5 then
          if c this (-1) = 5 then
            if c (c this 0) (-1) = 101 then
              if (c this 2) < (c (c this 0) (-2)) then
                if c this (-1) = 5 then
                  if c this (-1) = 5 then
                    if c (c this 1) (-1) = 100 then
                      if (c this 2) < (c (c this 1) (-2)) then
                        if c this (-1) = 5 then
                          if x1 < (c this 2) then
                            if c this (-1) = 5 then
                              zbnd (zrun zTab d 43 [this, x1] c) (fun v1 c2 =>
                                if c2 this (-1) = 5 then
                                  zex zc_X4_insertWord zk_X4_insertWord (zrun zTab d) 19999 71 [(2, this), (0, x1), (1, x2), (3, 0), (0, v1), (0, c2 this 2)] [] c2
                                else none)
                            else none
                          else
                            if c this (-1) = 5 then
                              if c this (-1) = 5 then
                                zbnd (zrun zTab d 43 [this, zsub (c this 2) 1] c) (fun v3 c4 =>
                                  if c4 this (-1) = 5 then
                                    zex zc_X4_insertWord zk_X4_insertWord (zrun zTab d) 19999 71 [(2, this), (0, x1), (1, x2), (3, 0), (0, v3), (0, c4 this 2)] [] c4
                                  else none)
                              else none
                            else none
                        else none
                      else
                        some (0, c)
                    else none
                  else none
                else none
              else
                some (0, c)
            else none
          else none
        else none
      else
        some (0, c)
    else none := (zrun_s zt46).trans (zf_X4_insertWord _ _ this x1 x2 c)
set_option maxRecDepth 100000 in
theorem zf_X4_insertWord_71 (call : zCall) (K : zK) (this x1 x2 x4 x5 : Int) (c : zC) : zseg zc_X4_insertWord zk_X4_insertWord call K 1000 71 [(2, this), (0, x1), (1, x2), (3, 0), (0, x4), (0, x5)] [] c =
  if x5 ≤ x1 then
    if c this (-1) = 5 then
      if c (c this 0) (-1) = 101 ∧ (0 : Int) ≤ x1 ∧ x1 < c (c this 0) (-2) then
        if (zup c (c this 0) x1 x2) this (-1) = 5 then
          if (zup c (c this 0) x1 x2) ((zup c (c this 0) x1 x2) this 1) (-1) = 100 ∧ (0 : Int) ≤ x1 ∧ x1 < (zup c (c this 0) x1 x2) ((zup c (c this 0) x1 x2) this 1) (-2) then
            if (zup (zup c (c this 0) x1 x2) ((zup c (c this 0) x1 x2) this 1) x1 x4) this (-1) = 5 then
              if (zup (zup c (c this 0) x1 x2) ((zup c (c this 0) x1 x2) this 1) x1 x4) this (-1) = 5 then
                some (0, zup (zup (zup c (c this 0) x1 x2) ((zup c (c this 0) x1 x2) this 1) x1 x4) this 2 (zadd ((zup (zup c (c this 0) x1 x2) ((zup c (c this 0) x1 x2) this 1) x1 x4) this 2) 1))
              else none
            else none
          else none
        else none
      else none
    else none
  else
    if c this (-1) = 5 then
      if c this (-1) = 5 then
        if c (c this 0) (-1) = 101 ∧ (0 : Int) ≤ (zsub x5 1) ∧ (zsub x5 1) < c (c this 0) (-2) then
          if c (c this 0) (-1) = 101 ∧ (0 : Int) ≤ x5 ∧ x5 < c (c this 0) (-2) then
            if (zup c (c this 0) x5 (c (c this 0) (zsub x5 1))) this (-1) = 5 then
              if (zup c (c this 0) x5 (c (c this 0) (zsub x5 1))) this (-1) = 5 then
                if (zup c (c this 0) x5 (c (c this 0) (zsub x5 1))) ((zup c (c this 0) x5 (c (c this 0) (zsub x5 1))) this 1) (-1) = 100 ∧ (0 : Int) ≤ (zsub x5 1) ∧ (zsub x5 1) < (zup c (c this 0) x5 (c (c this 0) (zsub x5 1))) ((zup c (c this 0) x5 (c (c this 0) (zsub x5 1))) this 1) (-2) then
                  if (zup c (c this 0) x5 (c (c this 0) (zsub x5 1))) ((zup c (c this 0) x5 (c (c this 0) (zsub x5 1))) this 1) (-1) = 100 ∧ (0 : Int) ≤ x5 ∧ x5 < (zup c (c this 0) x5 (c (c this 0) (zsub x5 1))) ((zup c (c this 0) x5 (c (c this 0) (zsub x5 1))) this 1) (-2) then
                    K 71 [(2, this), (0, x1), (1, x2), (3, 0), (0, x4), (0, zw (x5 + (-1)))] [] (zup (zup c (c this 0) x5 (c (c this 0) (zsub x5 1))) ((zup c (c this 0) x5 (c (c this 0) (zsub x5 1))) this 1) x5 ((zup c (c this 0) x5 (c (c this 0) (zsub x5 1))) ((zup c (c this 0) x5 (c (c this 0) (zsub x5 1))) this 1) (zsub x5 1)))
                  else none
                else none
              else none
            else none
          else none
        else none
      else none
    else none := by rfl
theorem ze_X4_insertWord_71 (d F : Nat) (this x1 x2 x4 x5 : Int) (c : zC) : zex zc_X4_insertWord zk_X4_insertWord (zrun zTab d) (F + 1) 71 [(2, this), (0, x1), (1, x2), (3, 0), (0, x4), (0, x5)] [] c =
  if x5 ≤ x1 then
    if c this (-1) = 5 then
      if c (c this 0) (-1) = 101 ∧ (0 : Int) ≤ x1 ∧ x1 < c (c this 0) (-2) then
        if (zup c (c this 0) x1 x2) this (-1) = 5 then
          if (zup c (c this 0) x1 x2) ((zup c (c this 0) x1 x2) this 1) (-1) = 100 ∧ (0 : Int) ≤ x1 ∧ x1 < (zup c (c this 0) x1 x2) ((zup c (c this 0) x1 x2) this 1) (-2) then
            if (zup (zup c (c this 0) x1 x2) ((zup c (c this 0) x1 x2) this 1) x1 x4) this (-1) = 5 then
              if (zup (zup c (c this 0) x1 x2) ((zup c (c this 0) x1 x2) this 1) x1 x4) this (-1) = 5 then
                some (0, zup (zup (zup c (c this 0) x1 x2) ((zup c (c this 0) x1 x2) this 1) x1 x4) this 2 (zadd ((zup (zup c (c this 0) x1 x2) ((zup c (c this 0) x1 x2) this 1) x1 x4) this 2) 1))
              else none
            else none
          else none
        else none
      else none
    else none
  else
    if c this (-1) = 5 then
      if c this (-1) = 5 then
        if c (c this 0) (-1) = 101 ∧ (0 : Int) ≤ (zsub x5 1) ∧ (zsub x5 1) < c (c this 0) (-2) then
          if c (c this 0) (-1) = 101 ∧ (0 : Int) ≤ x5 ∧ x5 < c (c this 0) (-2) then
            if (zup c (c this 0) x5 (c (c this 0) (zsub x5 1))) this (-1) = 5 then
              if (zup c (c this 0) x5 (c (c this 0) (zsub x5 1))) this (-1) = 5 then
                if (zup c (c this 0) x5 (c (c this 0) (zsub x5 1))) ((zup c (c this 0) x5 (c (c this 0) (zsub x5 1))) this 1) (-1) = 100 ∧ (0 : Int) ≤ (zsub x5 1) ∧ (zsub x5 1) < (zup c (c this 0) x5 (c (c this 0) (zsub x5 1))) ((zup c (c this 0) x5 (c (c this 0) (zsub x5 1))) this 1) (-2) then
                  if (zup c (c this 0) x5 (c (c this 0) (zsub x5 1))) ((zup c (c this 0) x5 (c (c this 0) (zsub x5 1))) this 1) (-1) = 100 ∧ (0 : Int) ≤ x5 ∧ x5 < (zup c (c this 0) x5 (c (c this 0) (zsub x5 1))) ((zup c (c this 0) x5 (c (c this 0) (zsub x5 1))) this 1) (-2) then
                    zex zc_X4_insertWord zk_X4_insertWord (zrun zTab d) F 71 [(2, this), (0, x1), (1, x2), (3, 0), (0, x4), (0, zw (x5 + (-1)))] [] (zup (zup c (c this 0) x5 (c (c this 0) (zsub x5 1))) ((zup c (c this 0) x5 (c (c this 0) (zsub x5 1))) this 1) x5 ((zup c (c this 0) x5 (c (c this 0) (zsub x5 1))) ((zup c (c this 0) x5 (c (c this 0) (zsub x5 1))) this 1) (zsub x5 1)))
                  else none
                else none
              else none
            else none
          else none
        else none
      else none
    else none := zf_X4_insertWord_71 _ _ this x1 x2 x4 x5 c
set_option maxRecDepth 100000 in
theorem zf_X4_replaceWord (call : zCall) (K : zK) (this x1 x2 : Int) (c : zC) : zseg zc_X4_replaceWord zk_X4_replaceWord call K 1000 0 [(2, this), (0, x1), (1, x2), (3, 0)] [] c =
  if x1 < 0 then
    some (0, c)
  else
    if c this (-1) = 5 then
      if x1 < (c this 2) then
        if c this (-1) = 5 then
          if c (c this 0) (-1) = 101 then
            if x1 < (c (c this 0) (-2)) then
              if c this (-1) = 5 then
                if c (c this 0) (-1) = 101 ∧ (0 : Int) ≤ x1 ∧ x1 < c (c this 0) (-2) then
                  some (0, zup c (c this 0) x1 x2)
                else none
              else none
            else
              some (0, c)
          else none
        else none
      else
        some (0, c)
    else none := by rfl
theorem ze_X4_replaceWord (d : Nat) (this x1 x2 : Int) (c : zC) : zrun zTab (d + 1) 47 [this, x1, x2] c =
  if x1 < 0 then
    some (0, c)
  else
    if c this (-1) = 5 then
      if x1 < (c this 2) then
        if c this (-1) = 5 then
          if c (c this 0) (-1) = 101 then
            if x1 < (c (c this 0) (-2)) then
              if c this (-1) = 5 then
                if c (c this 0) (-1) = 101 ∧ (0 : Int) ≤ x1 ∧ x1 < c (c this 0) (-2) then
                  some (0, zup c (c this 0) x1 x2)
                else none
              else none
            else
              some (0, c)
          else none
        else none
      else
        some (0, c)
    else none := (zrun_s zt47).trans (zf_X4_replaceWord _ _ this x1 x2 c)
set_option maxRecDepth 100000 in
theorem zf_X4_dropWord (call : zCall) (K : zK) (this x1 : Int) (c : zC) : zseg zc_X4_dropWord zk_X4_dropWord call K 1000 0 [(2, this), (0, x1), (3, 0), (3, 0)] [] c =
  if x1 < 0 then
    some (0, c)
  else
    if c this (-1) = 5 then
      if x1 < (c this 2) then
        if c this (-1) = 5 then
          if c this (-1) = 5 then
            if c (c this 0) (-1) = 101 then
              if (c this 2) ≤ (c (c this 0) (-2)) then
                if c this (-1) = 5 then
                  if c this (-1) = 5 then
                    if c (c this 1) (-1) = 100 then
                      if (c this 2) ≤ (c (c this 1) (-2)) then
                        if c this (-1) = 5 then
                          if c (c this 1) (-1) = 100 ∧ (0 : Int) ≤ x1 ∧ x1 < c (c this 1) (-2) then
                            K 46 [(2, this), (3, 0), (0, c (c this 1) x1), (0, x1)] [] c
                          else none
                        else none
                      else
                        some (0, c)
                    else none
                  else none
                else none
              else
                some (0, c)
            else none
          else none
        else none
      else
        some (0, c)
    else none := by rfl
theorem ze_X4_dropWord (d : Nat) (this x1 : Int) (c : zC) : zrun zTab (d + 1) 48 [this, x1] c =
  if x1 < 0 then
    some (0, c)
  else
    if c this (-1) = 5 then
      if x1 < (c this 2) then
        if c this (-1) = 5 then
          if c this (-1) = 5 then
            if c (c this 0) (-1) = 101 then
              if (c this 2) ≤ (c (c this 0) (-2)) then
                if c this (-1) = 5 then
                  if c this (-1) = 5 then
                    if c (c this 1) (-1) = 100 then
                      if (c this 2) ≤ (c (c this 1) (-2)) then
                        if c this (-1) = 5 then
                          if c (c this 1) (-1) = 100 ∧ (0 : Int) ≤ x1 ∧ x1 < c (c this 1) (-2) then
                            zex zc_X4_dropWord zk_X4_dropWord (zrun zTab d) 19999 46 [(2, this), (3, 0), (0, c (c this 1) x1), (0, x1)] [] c
                          else none
                        else none
                      else
                        some (0, c)
                    else none
                  else none
                else none
              else
                some (0, c)
            else none
          else none
        else none
      else
        some (0, c)
    else none := (zrun_s zt48).trans (zf_X4_dropWord _ _ this x1 c)
set_option maxRecDepth 100000 in
theorem zf_X4_dropWord_46 (call : zCall) (K : zK) (this x2 x3 : Int) (c : zC) : zseg zc_X4_dropWord zk_X4_dropWord call K 1000 46 [(2, this), (3, 0), (0, x2), (0, x3)] [] c =
  if c this (-1) = 5 then
    if (zadd x3 1) < (c this 2) then
      if c this (-1) = 5 then
        if c this (-1) = 5 then
          if c (c this 0) (-1) = 101 ∧ (0 : Int) ≤ (zadd x3 1) ∧ (zadd x3 1) < c (c this 0) (-2) then
            if c (c this 0) (-1) = 101 ∧ (0 : Int) ≤ x3 ∧ x3 < c (c this 0) (-2) then
              if (zup c (c this 0) x3 (c (c this 0) (zadd x3 1))) this (-1) = 5 then
                if (zup c (c this 0) x3 (c (c this 0) (zadd x3 1))) this (-1) = 5 then
                  if (zup c (c this 0) x3 (c (c this 0) (zadd x3 1))) ((zup c (c this 0) x3 (c (c this 0) (zadd x3 1))) this 1) (-1) = 100 ∧ (0 : Int) ≤ (zadd x3 1) ∧ (zadd x3 1) < (zup c (c this 0) x3 (c (c this 0) (zadd x3 1))) ((zup c (c this 0) x3 (c (c this 0) (zadd x3 1))) this 1) (-2) then
                    if (zup c (c this 0) x3 (c (c this 0) (zadd x3 1))) ((zup c (c this 0) x3 (c (c this 0) (zadd x3 1))) this 1) (-1) = 100 ∧ (0 : Int) ≤ x3 ∧ x3 < (zup c (c this 0) x3 (c (c this 0) (zadd x3 1))) ((zup c (c this 0) x3 (c (c this 0) (zadd x3 1))) this 1) (-2) then
                      K 46 [(2, this), (3, 0), (0, x2), (0, zw (x3 + 1))] [] (zup (zup c (c this 0) x3 (c (c this 0) (zadd x3 1))) ((zup c (c this 0) x3 (c (c this 0) (zadd x3 1))) this 1) x3 ((zup c (c this 0) x3 (c (c this 0) (zadd x3 1))) ((zup c (c this 0) x3 (c (c this 0) (zadd x3 1))) this 1) (zadd x3 1)))
                    else none
                  else none
                else none
              else none
            else none
          else none
        else none
      else none
    else
      if c this (-1) = 5 then
        if c this (-1) = 5 then
          if (zup c this 2 (zsub (c this 2) 1)) this (-1) = 5 then
            zbnd (call 49 [this, x2] (zup c this 2 (zsub (c this 2) 1))) (fun v1 c2 =>
              if v1 = 0 then
                if c2 this (-1) = 5 then
                  zbnd (call 50 [this, x2] c2) (fun _ c4 =>
                    some (0, c4))
                else none
              else
                some (0, c2))
          else none
        else none
      else none
  else none := by rfl
theorem ze_X4_dropWord_46 (d F : Nat) (this x2 x3 : Int) (c : zC) : zex zc_X4_dropWord zk_X4_dropWord (zrun zTab d) (F + 1) 46 [(2, this), (3, 0), (0, x2), (0, x3)] [] c =
  if c this (-1) = 5 then
    if (zadd x3 1) < (c this 2) then
      if c this (-1) = 5 then
        if c this (-1) = 5 then
          if c (c this 0) (-1) = 101 ∧ (0 : Int) ≤ (zadd x3 1) ∧ (zadd x3 1) < c (c this 0) (-2) then
            if c (c this 0) (-1) = 101 ∧ (0 : Int) ≤ x3 ∧ x3 < c (c this 0) (-2) then
              if (zup c (c this 0) x3 (c (c this 0) (zadd x3 1))) this (-1) = 5 then
                if (zup c (c this 0) x3 (c (c this 0) (zadd x3 1))) this (-1) = 5 then
                  if (zup c (c this 0) x3 (c (c this 0) (zadd x3 1))) ((zup c (c this 0) x3 (c (c this 0) (zadd x3 1))) this 1) (-1) = 100 ∧ (0 : Int) ≤ (zadd x3 1) ∧ (zadd x3 1) < (zup c (c this 0) x3 (c (c this 0) (zadd x3 1))) ((zup c (c this 0) x3 (c (c this 0) (zadd x3 1))) this 1) (-2) then
                    if (zup c (c this 0) x3 (c (c this 0) (zadd x3 1))) ((zup c (c this 0) x3 (c (c this 0) (zadd x3 1))) this 1) (-1) = 100 ∧ (0 : Int) ≤ x3 ∧ x3 < (zup c (c this 0) x3 (c (c this 0) (zadd x3 1))) ((zup c (c this 0) x3 (c (c this 0) (zadd x3 1))) this 1) (-2) then
                      zex zc_X4_dropWord zk_X4_dropWord (zrun zTab d) F 46 [(2, this), (3, 0), (0, x2), (0, zw (x3 + 1))] [] (zup (zup c (c this 0) x3 (c (c this 0) (zadd x3 1))) ((zup c (c this 0) x3 (c (c this 0) (zadd x3 1))) this 1) x3 ((zup c (c this 0) x3 (c (c this 0) (zadd x3 1))) ((zup c (c this 0) x3 (c (c this 0) (zadd x3 1))) this 1) (zadd x3 1)))
                    else none
                  else none
                else none
              else none
            else none
          else none
        else none
      else none
    else
      if c this (-1) = 5 then
        if c this (-1) = 5 then
          if (zup c this 2 (zsub (c this 2) 1)) this (-1) = 5 then
            zbnd (zrun zTab d 49 [this, x2] (zup c this 2 (zsub (c this 2) 1))) (fun v1 c2 =>
              if v1 = 0 then
                if c2 this (-1) = 5 then
                  zbnd (zrun zTab d 50 [this, x2] c2) (fun _ c4 =>
                    some (0, c4))
                else none
              else
                some (0, c2))
          else none
        else none
      else none
  else none := zf_X4_dropWord_46 _ _ this x2 x3 c
set_option maxRecDepth 100000 in
theorem zf_X4_hasSection (call : zCall) (K : zK) (this x1 : Int) (c : zC) : zseg zc_X4_hasSection zk_X4_hasSection call K 1000 0 [(2, this), (0, x1), (3, 0)] [] c =
  K 2 [(2, this), (0, x1), (0, 0)] [] c := by rfl
theorem ze_X4_hasSection (d : Nat) (this x1 : Int) (c : zC) : zrun zTab (d + 1) 49 [this, x1] c =
  zex zc_X4_hasSection zk_X4_hasSection (zrun zTab d) 19999 2 [(2, this), (0, x1), (0, 0)] [] c := (zrun_s zt49).trans (zf_X4_hasSection _ _ this x1 c)
set_option maxRecDepth 100000 in
theorem zf_X4_hasSection_2 (call : zCall) (K : zK) (this x1 x2 : Int) (c : zC) : zseg zc_X4_hasSection zk_X4_hasSection call K 1000 2 [(2, this), (0, x1), (0, x2)] [] c =
  if c this (-1) = 5 then
    if x2 < (c this 2) then
      if c this (-1) = 5 then
        if c (c this 1) (-1) = 100 then
          if x2 < (c (c this 1) (-2)) then
            if c this (-1) = 5 then
              if c (c this 1) (-1) = 100 ∧ (0 : Int) ≤ x2 ∧ x2 < c (c this 1) (-2) then
                if (c (c this 1) x2) = x1 then
                  some (1, c)
                else
                  K 2 [(2, this), (0, x1), (0, zw (x2 + 1))] [] c
              else none
            else none
          else
            some (0, c)
        else none
      else none
    else
      some (0, c)
  else none := by rfl
theorem ze_X4_hasSection_2 (d F : Nat) (this x1 x2 : Int) (c : zC) : zex zc_X4_hasSection zk_X4_hasSection (zrun zTab d) (F + 1) 2 [(2, this), (0, x1), (0, x2)] [] c =
  if c this (-1) = 5 then
    if x2 < (c this 2) then
      if c this (-1) = 5 then
        if c (c this 1) (-1) = 100 then
          if x2 < (c (c this 1) (-2)) then
            if c this (-1) = 5 then
              if c (c this 1) (-1) = 100 ∧ (0 : Int) ≤ x2 ∧ x2 < c (c this 1) (-2) then
                if (c (c this 1) x2) = x1 then
                  some (1, c)
                else
                  zex zc_X4_hasSection zk_X4_hasSection (zrun zTab d) F 2 [(2, this), (0, x1), (0, zw (x2 + 1))] [] c
              else none
            else none
          else
            some (0, c)
        else none
      else none
    else
      some (0, c)
  else none := zf_X4_hasSection_2 _ _ this x1 x2 c
set_option maxRecDepth 100000 in
theorem zf_X4_closeUpSections (call : zCall) (K : zK) (this x1 : Int) (c : zC) : zseg zc_X4_closeUpSections zk_X4_closeUpSections call K 1000 0 [(2, this), (0, x1), (3, 0)] [] c =
  K 2 [(2, this), (0, x1), (0, 0)] [] c := by rfl
theorem ze_X4_closeUpSections (d : Nat) (this x1 : Int) (c : zC) : zrun zTab (d + 1) 50 [this, x1] c =
  zex zc_X4_closeUpSections zk_X4_closeUpSections (zrun zTab d) 19999 2 [(2, this), (0, x1), (0, 0)] [] c := (zrun_s zt50).trans (zf_X4_closeUpSections _ _ this x1 c)
set_option maxRecDepth 100000 in
theorem zf_X4_closeUpSections_2 (call : zCall) (K : zK) (this x1 x2 : Int) (c : zC) : zseg zc_X4_closeUpSections zk_X4_closeUpSections call K 1000 2 [(2, this), (0, x1), (0, x2)] [] c =
  if c this (-1) = 5 then
    if x2 < (c this 2) then
      if c this (-1) = 5 then
        if c (c this 1) (-1) = 100 then
          if x2 < (c (c this 1) (-2)) then
            if c this (-1) = 5 then
              if c (c this 1) (-1) = 100 ∧ (0 : Int) ≤ x2 ∧ x2 < c (c this 1) (-2) then
                if (c (c this 1) x2) ≤ x1 then
                  K 2 [(2, this), (0, x1), (0, zw (x2 + 1))] [] c
                else
                  if c this (-1) = 5 then
                    if c (c this 1) (-1) = 100 ∧ (0 : Int) ≤ x2 ∧ x2 < c (c this 1) (-2) then
                      if c (c this 1) (-1) = 100 ∧ (0 : Int) ≤ x2 ∧ x2 < c (c this 1) (-2) then
                        K 2 [(2, this), (0, x1), (0, zw (x2 + 1))] [] (zup c (c this 1) x2 (zsub (c (c this 1) x2) 1))
                      else none
                    else none
                  else none
              else none
            else none
          else
            some (0, c)
        else none
      else none
    else
      some (0, c)
  else none := by rfl
theorem ze_X4_closeUpSections_2 (d F : Nat) (this x1 x2 : Int) (c : zC) : zex zc_X4_closeUpSections zk_X4_closeUpSections (zrun zTab d) (F + 1) 2 [(2, this), (0, x1), (0, x2)] [] c =
  if c this (-1) = 5 then
    if x2 < (c this 2) then
      if c this (-1) = 5 then
        if c (c this 1) (-1) = 100 then
          if x2 < (c (c this 1) (-2)) then
            if c this (-1) = 5 then
              if c (c this 1) (-1) = 100 ∧ (0 : Int) ≤ x2 ∧ x2 < c (c this 1) (-2) then
                if (c (c this 1) x2) ≤ x1 then
                  zex zc_X4_closeUpSections zk_X4_closeUpSections (zrun zTab d) F 2 [(2, this), (0, x1), (0, zw (x2 + 1))] [] c
                else
                  if c this (-1) = 5 then
                    if c (c this 1) (-1) = 100 ∧ (0 : Int) ≤ x2 ∧ x2 < c (c this 1) (-2) then
                      if c (c this 1) (-1) = 100 ∧ (0 : Int) ≤ x2 ∧ x2 < c (c this 1) (-2) then
                        zex zc_X4_closeUpSections zk_X4_closeUpSections (zrun zTab d) F 2 [(2, this), (0, x1), (0, zw (x2 + 1))] [] (zup c (c this 1) x2 (zsub (c (c this 1) x2) 1))
                      else none
                    else none
                  else none
              else none
            else none
          else
            some (0, c)
        else none
      else none
    else
      some (0, c)
  else none := zf_X4_closeUpSections_2 _ _ this x1 x2 c
set_option maxRecDepth 100000 in
theorem zf_X4_copyWords (call : zCall) (K : zK) (this x1 : Int) (c : zC) : zseg zc_X4_copyWords zk_X4_copyWords call K 1000 0 [(2, this), (2, x1)] [] c =
  if x1 = 0 then
    some (0, c)
  else
    if c x1 (-1) = 5 then
      if c this (-1) = 5 then
        if c (c x1 0) (-1) = 101 ∧ c (c this 0) (-1) = 101 ∧ (0 : Int) ≤ 20 ∧ (0 : Int) ≤ 0 ∧ (0 : Int) ≤ 0 ∧ 0 + 20 ≤ c (c x1 0) (-2) ∧ 0 + 20 ≤ c (c this 0) (-2) then
          if (zcopy c (c x1 0) 0 (c this 0) 0 20) x1 (-1) = 5 then
            if (zcopy c (c x1 0) 0 (c this 0) 0 20) this (-1) = 5 then
              if (zcopy c (c x1 0) 0 (c this 0) 0 20) ((zcopy c (c x1 0) 0 (c this 0) 0 20) x1 1) (-1) = 100 ∧ (zcopy c (c x1 0) 0 (c this 0) 0 20) ((zcopy c (c x1 0) 0 (c this 0) 0 20) this 1) (-1) = 100 ∧ (0 : Int) ≤ 20 ∧ (0 : Int) ≤ 0 ∧ (0 : Int) ≤ 0 ∧ 0 + 20 ≤ (zcopy c (c x1 0) 0 (c this 0) 0 20) ((zcopy c (c x1 0) 0 (c this 0) 0 20) x1 1) (-2) ∧ 0 + 20 ≤ (zcopy c (c x1 0) 0 (c this 0) 0 20) ((zcopy c (c x1 0) 0 (c this 0) 0 20) this 1) (-2) then
                if (zcopy (zcopy c (c x1 0) 0 (c this 0) 0 20) ((zcopy c (c x1 0) 0 (c this 0) 0 20) x1 1) 0 ((zcopy c (c x1 0) 0 (c this 0) 0 20) this 1) 0 20) x1 (-1) = 5 then
                  if (zcopy (zcopy c (c x1 0) 0 (c this 0) 0 20) ((zcopy c (c x1 0) 0 (c this 0) 0 20) x1 1) 0 ((zcopy c (c x1 0) 0 (c this 0) 0 20) this 1) 0 20) this (-1) = 5 then
                    some (0, zup (zcopy (zcopy c (c x1 0) 0 (c this 0) 0 20) ((zcopy c (c x1 0) 0 (c this 0) 0 20) x1 1) 0 ((zcopy c (c x1 0) 0 (c this 0) 0 20) this 1) 0 20) this 2 ((zcopy (zcopy c (c x1 0) 0 (c this 0) 0 20) ((zcopy c (c x1 0) 0 (c this 0) 0 20) x1 1) 0 ((zcopy c (c x1 0) 0 (c this 0) 0 20) this 1) 0 20) x1 2))
                  else none
                else none
              else none
            else none
          else none
        else none
      else none
    else none := by rfl
theorem ze_X4_copyWords (d : Nat) (this x1 : Int) (c : zC) : zrun zTab (d + 1) 51 [this, x1] c =
  if x1 = 0 then
    some (0, c)
  else
    if c x1 (-1) = 5 then
      if c this (-1) = 5 then
        if c (c x1 0) (-1) = 101 ∧ c (c this 0) (-1) = 101 ∧ (0 : Int) ≤ 20 ∧ (0 : Int) ≤ 0 ∧ (0 : Int) ≤ 0 ∧ 0 + 20 ≤ c (c x1 0) (-2) ∧ 0 + 20 ≤ c (c this 0) (-2) then
          if (zcopy c (c x1 0) 0 (c this 0) 0 20) x1 (-1) = 5 then
            if (zcopy c (c x1 0) 0 (c this 0) 0 20) this (-1) = 5 then
              if (zcopy c (c x1 0) 0 (c this 0) 0 20) ((zcopy c (c x1 0) 0 (c this 0) 0 20) x1 1) (-1) = 100 ∧ (zcopy c (c x1 0) 0 (c this 0) 0 20) ((zcopy c (c x1 0) 0 (c this 0) 0 20) this 1) (-1) = 100 ∧ (0 : Int) ≤ 20 ∧ (0 : Int) ≤ 0 ∧ (0 : Int) ≤ 0 ∧ 0 + 20 ≤ (zcopy c (c x1 0) 0 (c this 0) 0 20) ((zcopy c (c x1 0) 0 (c this 0) 0 20) x1 1) (-2) ∧ 0 + 20 ≤ (zcopy c (c x1 0) 0 (c this 0) 0 20) ((zcopy c (c x1 0) 0 (c this 0) 0 20) this 1) (-2) then
                if (zcopy (zcopy c (c x1 0) 0 (c this 0) 0 20) ((zcopy c (c x1 0) 0 (c this 0) 0 20) x1 1) 0 ((zcopy c (c x1 0) 0 (c this 0) 0 20) this 1) 0 20) x1 (-1) = 5 then
                  if (zcopy (zcopy c (c x1 0) 0 (c this 0) 0 20) ((zcopy c (c x1 0) 0 (c this 0) 0 20) x1 1) 0 ((zcopy c (c x1 0) 0 (c this 0) 0 20) this 1) 0 20) this (-1) = 5 then
                    some (0, zup (zcopy (zcopy c (c x1 0) 0 (c this 0) 0 20) ((zcopy c (c x1 0) 0 (c this 0) 0 20) x1 1) 0 ((zcopy c (c x1 0) 0 (c this 0) 0 20) this 1) 0 20) this 2 ((zcopy (zcopy c (c x1 0) 0 (c this 0) 0 20) ((zcopy c (c x1 0) 0 (c this 0) 0 20) x1 1) 0 ((zcopy c (c x1 0) 0 (c this 0) 0 20) this 1) 0 20) x1 2))
                  else none
                else none
              else none
            else none
          else none
        else none
      else none
    else none := (zrun_s zt51).trans (zf_X4_copyWords _ _ this x1 c)
set_option maxRecDepth 100000 in
theorem zf_X4_copyFrom (call : zCall) (K : zK) (this x1 : Int) (c : zC) : zseg zc_X4_copyFrom zk_X4_copyFrom call K 1000 0 [(2, this), (2, x1)] [] c =
  if x1 = 0 then
    some (0, c)
  else
    if c this (-1) = 5 then
      zbnd (call 51 [this, x1] c) (fun _ c2 =>
        if c2 x1 (-1) = 5 then
          if c2 this (-1) = 5 then
            some (0, zup c2 this 3 (c2 x1 3))
          else none
        else none)
    else none := by rfl
theorem ze_X4_copyFrom (d : Nat) (this x1 : Int) (c : zC) : zrun zTab (d + 1) 52 [this, x1] c =
  if x1 = 0 then
    some (0, c)
  else
    if c this (-1) = 5 then
      zbnd (zrun zTab d 51 [this, x1] c) (fun _ c2 =>
        if c2 x1 (-1) = 5 then
          if c2 this (-1) = 5 then
            some (0, zup c2 this 3 (c2 x1 3))
          else none
        else none)
    else none := (zrun_s zt52).trans (zf_X4_copyFrom _ _ this x1 c)
