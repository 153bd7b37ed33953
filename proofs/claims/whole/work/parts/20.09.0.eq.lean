set_option maxRecDepth 100000 in
theorem zf_X9_init (call : zCall) (K : zK) (this : Int) (c : zC) : zseg zc_X9_init zk_X9_init call K 1000 0 [(2, this)] [] c =
  if this = 0 then none else
    if (znew c 100 80) this (-1) = 10 then
      K 12 [(2, this)] [] (zup (znew c 100 80) this 0 (c 0 0))
    else none := by rfl
theorem ze_X9_init (d : Nat) (this : Int) (c : zC) : zrun zTab (d + 1) 76 [this] c =
  if this = 0 then none else
    if (znew c 100 80) this (-1) = 10 then
      zex zc_X9_init zk_X9_init (zrun zTab d) 19999 12 [(2, this)] [] (zup (znew c 100 80) this 0 (c 0 0))
    else none := (zrun_s zt76).trans (zf_X9_init _ _ this c)
set_option maxRecDepth 100000 in
theorem zf_X9_init_12 (call : zCall) (K : zK) (this : Int) (c : zC) : zseg zc_X9_init zk_X9_init call K 1000 12 [(2, this)] [] c =
  if c this (-1) = 10 then
    K 17 [(2, this)] [] (zup c this 3 (-1))
  else none := by rfl
theorem ze_X9_init_12 (d F : Nat) (this : Int) (c : zC) : zex zc_X9_init zk_X9_init (zrun zTab d) (F + 1) 12 [(2, this)] [] c =
  if c this (-1) = 10 then
    zex zc_X9_init zk_X9_init (zrun zTab d) F 17 [(2, this)] [] (zup c this 3 (-1))
  else none := zf_X9_init_12 _ _ this c
set_option maxRecDepth 100000 in
theorem zf_X9_init_17 (call : zCall) (K : zK) (this : Int) (c : zC) : zseg zc_X9_init zk_X9_init call K 1000 17 [(2, this)] [] c =
  if c this (-1) = 10 then
    K 23 [(2, this)] [] (zup c this 4 (-5))
  else none := by rfl
theorem ze_X9_init_17 (d F : Nat) (this : Int) (c : zC) : zex zc_X9_init zk_X9_init (zrun zTab d) (F + 1) 17 [(2, this)] [] c =
  if c this (-1) = 10 then
    zex zc_X9_init zk_X9_init (zrun zTab d) F 23 [(2, this)] [] (zup c this 4 (-5))
  else none := zf_X9_init_17 _ _ this c
set_option maxRecDepth 100000 in
theorem zf_X9_init_23 (call : zCall) (K : zK) (this : Int) (c : zC) : zseg zc_X9_init zk_X9_init call K 1000 23 [(2, this)] [] c =
  if (znew c 5 4) (c 0 0) (-1) = 5 then
    zbnd (call 41 [c 0 0] (znew c 5 4)) (fun _ c2 =>
      if c2 this (-1) = 10 then
        K 34 [(2, this)] [] (zup c2 this 5 (c 0 0))
      else none)
  else none := by rfl
theorem ze_X9_init_23 (d F : Nat) (this : Int) (c : zC) : zex zc_X9_init zk_X9_init (zrun zTab d) (F + 1) 23 [(2, this)] [] c =
  if (znew c 5 4) (c 0 0) (-1) = 5 then
    zbnd (zrun zTab d 41 [c 0 0] (znew c 5 4)) (fun _ c2 =>
      if c2 this (-1) = 10 then
        zex zc_X9_init zk_X9_init (zrun zTab d) F 34 [(2, this)] [] (zup c2 this 5 (c 0 0))
      else none)
  else none := zf_X9_init_23 _ _ this c
set_option maxRecDepth 100000 in
theorem zf_X9_init_34 (call : zCall) (K : zK) (this : Int) (c : zC) : zseg zc_X9_init zk_X9_init call K 1000 34 [(2, this)] [] c =
  if (znew c 8 4) (c 0 0) (-1) = 8 then
    zbnd (call 62 [c 0 0] (znew c 8 4)) (fun _ c2 =>
      if c2 this (-1) = 10 then
        K 45 [(2, this)] [] (zup c2 this 6 (c 0 0))
      else none)
  else none := by rfl
theorem ze_X9_init_34 (d F : Nat) (this : Int) (c : zC) : zex zc_X9_init zk_X9_init (zrun zTab d) (F + 1) 34 [(2, this)] [] c =
  if (znew c 8 4) (c 0 0) (-1) = 8 then
    zbnd (zrun zTab d 62 [c 0 0] (znew c 8 4)) (fun _ c2 =>
      if c2 this (-1) = 10 then
        zex zc_X9_init zk_X9_init (zrun zTab d) F 45 [(2, this)] [] (zup c2 this 6 (c 0 0))
      else none)
  else none := zf_X9_init_34 _ _ this c
set_option maxRecDepth 100000 in
theorem zf_X9_init_45 (call : zCall) (K : zK) (this : Int) (c : zC) : zseg zc_X9_init zk_X9_init call K 1000 45 [(2, this)] [] c =
  if (znew c 7 4) (c 0 0) (-1) = 7 then
    zbnd (call 58 [c 0 0] (znew c 7 4)) (fun _ c2 =>
      if c2 this (-1) = 10 then
        K 56 [(3, 0)] [] (zup c2 this 7 (c 0 0))
      else none)
  else none := by rfl
theorem ze_X9_init_45 (d F : Nat) (this : Int) (c : zC) : zex zc_X9_init zk_X9_init (zrun zTab d) (F + 1) 45 [(2, this)] [] c =
  if (znew c 7 4) (c 0 0) (-1) = 7 then
    zbnd (zrun zTab d 58 [c 0 0] (znew c 7 4)) (fun _ c2 =>
      if c2 this (-1) = 10 then
        zex zc_X9_init zk_X9_init (zrun zTab d) F 56 [(3, 0)] [] (zup c2 this 7 (c 0 0))
      else none)
  else none := zf_X9_init_45 _ _ this c
set_option maxRecDepth 100000 in
theorem zf_X9_init_56 (call : zCall) (K : zK) (c : zC) : zseg zc_X9_init zk_X9_init call K 1000 56 [(3, 0)] [] c =
  some (0, c) := by rfl
theorem ze_X9_init_56 (d F : Nat) (c : zC) : zex zc_X9_init zk_X9_init (zrun zTab d) (F + 1) 56 [(3, 0)] [] c =
  some (0, c) := zf_X9_init_56 _ _ c
set_option maxRecDepth 100000 in
theorem zf_X9_append (call : zCall) (K : zK) (this x1 : Int) (c : zC) : zseg zc_X9_append zk_X9_append call K 1000 0 [(2, this), (0, x1)] [] c =
  if c this (-1) = 10 then
    if (c this 1) < 0 then
      some (0, c)
    else
      if c this (-1) = 10 then
        if c this (-1) = 10 then
          if c (c this 0) (-1) = 100 then
            if (c this 1) < (c (c this 0) (-2)) then
              if c this (-1) = 10 then
                if c this (-1) = 10 then
                  if c (c this 0) (-1) = 100 ∧ (0 : Int) ≤ (c this 1) ∧ (c this 1) < c (c this 0) (-2) then
                    if (zup c (c this 0) (c this 1) x1) this (-1) = 10 then
                      if (zup c (c this 0) (c this 1) x1) this (-1) = 10 then
                        some (0, zup (zup c (c this 0) (c this 1) x1) this 1 (zadd ((zup c (c this 0) (c this 1) x1) this 1) 1))
                      else none
                    else none
                  else none
                else none
              else none
            else
              some (0, c)
          else none
        else none
      else none
  else none := by rfl
theorem ze_X9_append (d : Nat) (this x1 : Int) (c : zC) : zrun zTab (d + 1) 77 [this, x1] c =
  if c this (-1) = 10 then
    if (c this 1) < 0 then
      some (0, c)
    else
      if c this (-1) = 10 then
        if c this (-1) = 10 then
          if c (c this 0) (-1) = 100 then
            if (c this 1) < (c (c this 0) (-2)) then
              if c this (-1) = 10 then
                if c this (-1) = 10 then
                  if c (c this 0) (-1) = 100 ∧ (0 : Int) ≤ (c this 1) ∧ (c this 1) < c (c this 0) (-2) then
                    if (zup c (c this 0) (c this 1) x1) this (-1) = 10 then
                      if (zup c (c this 0) (c this 1) x1) this (-1) = 10 then
                        some (0, zup (zup c (c this 0) (c this 1) x1) this 1 (zadd ((zup c (c this 0) (c this 1) x1) this 1) 1))
                      else none
                    else none
                  else none
                else none
              else none
            else
              some (0, c)
          else none
        else none
      else none
  else none := (zrun_s zt77).trans (zf_X9_append _ _ this x1 c)
set_option maxRecDepth 100000 in
theorem zf_X9_readPage (call : zCall) (K : zK) (this : Int) (c : zC) : zseg zc_X9_readPage zk_X9_readPage call K 1000 0 [(2, this)] [] c =
  if c this (-1) = 10 then
    zbnd (call 82 [this] c) (fun _ c2 =>
      if c2 this (-1) = 10 then
        if c2 (c2 this 5) (-1) = 5 then
          if (zup c2 (c2 this 5) 2 0) this (-1) = 10 then
            if ((zup c2 (c2 this 5) 2 0) this 1) ≤ 0 then
              if (zup c2 (c2 this 5) 2 0) this (-1) = 10 then
                zbnd (call 83 [this] (zup c2 (c2 this 5) 2 0)) (fun v3 c4 =>
                  if v3 = 0 ∨ v3 = 1 then some (v3, c4) else none)
              else none
            else
              if (zup c2 (c2 this 5) 2 0) this (-1) = 10 then
                zbnd (call 92 [this] (zup c2 (c2 this 5) 2 0)) (fun _ c6 =>
                  if c6 this (-1) = 10 then
                    zbnd (call 83 [this] c6) (fun v7 c8 =>
                      if v7 = 0 ∨ v7 = 1 then some (v7, c8) else none)
                  else none)
              else none
          else none
        else none
      else none)
  else none := by rfl
theorem ze_X9_readPage (d : Nat) (this : Int) (c : zC) : zrun zTab (d + 1) 78 [this] c =
  if c this (-1) = 10 then
    zbnd (zrun zTab d 82 [this] c) (fun _ c2 =>
      if c2 this (-1) = 10 then
        if c2 (c2 this 5) (-1) = 5 then
          if (zup c2 (c2 this 5) 2 0) this (-1) = 10 then
            if ((zup c2 (c2 this 5) 2 0) this 1) ≤ 0 then
              if (zup c2 (c2 this 5) 2 0) this (-1) = 10 then
                zbnd (zrun zTab d 83 [this] (zup c2 (c2 this 5) 2 0)) (fun v3 c4 =>
                  if v3 = 0 ∨ v3 = 1 then some (v3, c4) else none)
              else none
            else
              if (zup c2 (c2 this 5) 2 0) this (-1) = 10 then
                zbnd (zrun zTab d 92 [this] (zup c2 (c2 this 5) 2 0)) (fun _ c6 =>
                  if c6 this (-1) = 10 then
                    zbnd (zrun zTab d 83 [this] c6) (fun v7 c8 =>
                      if v7 = 0 ∨ v7 = 1 then some (v7, c8) else none)
                  else none)
              else none
          else none
        else none
      else none)
  else none := (zrun_s zt78).trans (zf_X9_readPage _ _ this c)
set_option maxRecDepth 100000 in
theorem zf_X9_readSense (call : zCall) (K : zK) (this : Int) (c : zC) : zseg zc_X9_readSense zk_X9_readSense call K 1000 0 [(2, this)] [] c =
  if c this (-1) = 10 then
    zbnd (call 82 [this] c) (fun _ c2 =>
      if c2 this (-1) = 10 then
        if c2 (c2 this 6) (-1) = 8 then
          if (zup c2 (c2 this 6) 2 0) this (-1) = 10 then
            if (zup c2 (c2 this 6) 2 0) ((zup c2 (c2 this 6) 2 0) this 6) (-1) = 8 then
              if (zup (zup c2 (c2 this 6) 2 0) ((zup c2 (c2 this 6) 2 0) this 6) 3 (-5)) this (-1) = 10 then
                if (zup (zup c2 (c2 this 6) 2 0) ((zup c2 (c2 this 6) 2 0) this 6) 3 (-5)) this (-1) = 10 then
                  zbnd (call 91 [this, 1] (zup (zup c2 (c2 this 6) 2 0) ((zup c2 (c2 this 6) 2 0) this 6) 3 (-5))) (fun v3 c4 =>
                    if c4 ((zup (zup c2 (c2 this 6) 2 0) ((zup c2 (c2 this 6) 2 0) this 6) 3 (-5)) this 6) (-1) = 8 then
                      if (zup c4 ((zup (zup c2 (c2 this 6) 2 0) ((zup c2 (c2 this 6) 2 0) this 6) 3 (-5)) this 6) 0 v3) this (-1) = 10 then
                        zbnd (call 88 [this, 58] (zup c4 ((zup (zup c2 (c2 this 6) 2 0) ((zup c2 (c2 this 6) 2 0) this 6) 3 (-5)) this 6) 0 v3)) (fun _ c6 =>
                          if c6 this (-1) = 10 then
                            zbnd (call 87 [this] c6) (fun v7 c8 =>
                              if v7 = 0 then
                                if c8 this (-1) = 10 then
                                  zbnd (call 86 [this, 64] c8) (fun v9 c10 =>
                                    if v9 = 0 then
                                      if c10 this (-1) = 10 then
                                        zbnd (call 89 [this] c10) (fun _ c12 =>
                                          if c12 this (-1) = 10 then
                                            zbnd (call 83 [this] c12) (fun v13 c14 =>
                                              if v13 = 0 ∨ v13 = 1 then some (v13, c14) else none)
                                          else none)
                                      else none
                                    else
                                      if c10 this (-1) = 10 then
                                        zbnd (call 94 [this] c10) (fun _ c16 =>
                                          if c16 this (-1) = 10 then
                                            zbnd (call 89 [this] c16) (fun _ c18 =>
                                              if c18 this (-1) = 10 then
                                                zbnd (call 83 [this] c18) (fun v19 c20 =>
                                                  if v19 = 0 ∨ v19 = 1 then some (v19, c20) else none)
                                              else none)
                                          else none)
                                      else none)
                                else none
                              else
                                if c8 this (-1) = 10 then
                                  zbnd (call 93 [this] c8) (fun _ c22 =>
                                    if c22 this (-1) = 10 then
                                      zbnd (call 86 [this, 64] c22) (fun v23 c24 =>
                                        if v23 = 0 then
                                          if c24 this (-1) = 10 then
                                            zbnd (call 89 [this] c24) (fun _ c26 =>
                                              if c26 this (-1) = 10 then
                                                zbnd (call 83 [this] c26) (fun v27 c28 =>
                                                  if v27 = 0 ∨ v27 = 1 then some (v27, c28) else none)
                                              else none)
                                          else none
                                        else
                                          if c24 this (-1) = 10 then
                                            zbnd (call 94 [this] c24) (fun _ c30 =>
                                              if c30 this (-1) = 10 then
                                                zbnd (call 89 [this] c30) (fun _ c32 =>
                                                  if c32 this (-1) = 10 then
                                                    zbnd (call 83 [this] c32) (fun v33 c34 =>
                                                      if v33 = 0 ∨ v33 = 1 then some (v33, c34) else none)
                                                  else none)
                                              else none)
                                          else none)
                                    else none)
                                else none)
                          else none)
                      else none
                    else none)
                else none
              else none
            else none
          else none
        else none
      else none)
  else none := by rfl
theorem ze_X9_readSense (d : Nat) (this : Int) (c : zC) : zrun zTab (d + 1) 79 [this] c =
  if c this (-1) = 10 then
    zbnd (zrun zTab d 82 [this] c) (fun _ c2 =>
      if c2 this (-1) = 10 then
        if c2 (c2 this 6) (-1) = 8 then
          if (zup c2 (c2 this 6) 2 0) this (-1) = 10 then
            if (zup c2 (c2 this 6) 2 0) ((zup c2 (c2 this 6) 2 0) this 6) (-1) = 8 then
              if (zup (zup c2 (c2 this 6) 2 0) ((zup c2 (c2 this 6) 2 0) this 6) 3 (-5)) this (-1) = 10 then
                if (zup (zup c2 (c2 this 6) 2 0) ((zup c2 (c2 this 6) 2 0) this 6) 3 (-5)) this (-1) = 10 then
                  zbnd (zrun zTab d 91 [this, 1] (zup (zup c2 (c2 this 6) 2 0) ((zup c2 (c2 this 6) 2 0) this 6) 3 (-5))) (fun v3 c4 =>
                    if c4 ((zup (zup c2 (c2 this 6) 2 0) ((zup c2 (c2 this 6) 2 0) this 6) 3 (-5)) this 6) (-1) = 8 then
                      if (zup c4 ((zup (zup c2 (c2 this 6) 2 0) ((zup c2 (c2 this 6) 2 0) this 6) 3 (-5)) this 6) 0 v3) this (-1) = 10 then
                        zbnd (zrun zTab d 88 [this, 58] (zup c4 ((zup (zup c2 (c2 this 6) 2 0) ((zup c2 (c2 this 6) 2 0) this 6) 3 (-5)) this 6) 0 v3)) (fun _ c6 =>
                          if c6 this (-1) = 10 then
                            zbnd (zrun zTab d 87 [this] c6) (fun v7 c8 =>
                              if v7 = 0 then
                                if c8 this (-1) = 10 then
                                  zbnd (zrun zTab d 86 [this, 64] c8) (fun v9 c10 =>
                                    if v9 = 0 then
                                      if c10 this (-1) = 10 then
                                        zbnd (zrun zTab d 89 [this] c10) (fun _ c12 =>
                                          if c12 this (-1) = 10 then
                                            zbnd (zrun zTab d 83 [this] c12) (fun v13 c14 =>
                                              if v13 = 0 ∨ v13 = 1 then some (v13, c14) else none)
                                          else none)
                                      else none
                                    else
                                      if c10 this (-1) = 10 then
                                        zbnd (zrun zTab d 94 [this] c10) (fun _ c16 =>
                                          if c16 this (-1) = 10 then
                                            zbnd (zrun zTab d 89 [this] c16) (fun _ c18 =>
                                              if c18 this (-1) = 10 then
                                                zbnd (zrun zTab d 83 [this] c18) (fun v19 c20 =>
                                                  if v19 = 0 ∨ v19 = 1 then some (v19, c20) else none)
                                              else none)
                                          else none)
                                      else none)
                                else none
                              else
                                if c8 this (-1) = 10 then
                                  zbnd (zrun zTab d 93 [this] c8) (fun _ c22 =>
                                    if c22 this (-1) = 10 then
                                      zbnd (zrun zTab d 86 [this, 64] c22) (fun v23 c24 =>
                                        if v23 = 0 then
                                          if c24 this (-1) = 10 then
                                            zbnd (zrun zTab d 89 [this] c24) (fun _ c26 =>
                                              if c26 this (-1) = 10 then
                                                zbnd (zrun zTab d 83 [this] c26) (fun v27 c28 =>
                                                  if v27 = 0 ∨ v27 = 1 then some (v27, c28) else none)
                                              else none)
                                          else none
                                        else
                                          if c24 this (-1) = 10 then
                                            zbnd (zrun zTab d 94 [this] c24) (fun _ c30 =>
                                              if c30 this (-1) = 10 then
                                                zbnd (zrun zTab d 89 [this] c30) (fun _ c32 =>
                                                  if c32 this (-1) = 10 then
                                                    zbnd (zrun zTab d 83 [this] c32) (fun v33 c34 =>
                                                      if v33 = 0 ∨ v33 = 1 then some (v33, c34) else none)
                                                  else none)
                                              else none)
                                          else none)
                                    else none)
                                else none)
                          else none)
                      else none
                    else none)
                else none
              else none
            else none
          else none
        else none
      else none)
  else none := (zrun_s zt79).trans (zf_X9_readSense _ _ this c)
set_option maxRecDepth 100000 in
theorem zf_X9_readRule (call : zCall) (K : zK) (this : Int) (c : zC) : zseg zc_X9_readRule zk_X9_readRule call K 1000 0 [(2, this), (3, 0), (3, 0), (3, 0), (3, 0)] [] c =
  if c this (-1) = 10 then
    zbnd (call 82 [this] c) (fun _ c2 =>
      if c2 this (-1) = 10 then
        zbnd (call 87 [this] c2) (fun v3 c4 =>
          if v3 = 0 then
            if c4 this (-1) = 10 then
              zbnd (call 84 [this, 1] c4) (fun _ c6 =>
                K 16 [(2, this), (3, 0), (3, 0), (3, 0), (3, 0)] [] c6)
            else none
          else
            K 16 [(2, this), (3, 0), (3, 0), (3, 0), (3, 0)] [] c4)
      else none)
  else none := by rfl
theorem ze_X9_readRule (d : Nat) (this : Int) (c : zC) : zrun zTab (d + 1) 80 [this] c =
  if c this (-1) = 10 then
    zbnd (zrun zTab d 82 [this] c) (fun _ c2 =>
      if c2 this (-1) = 10 then
        zbnd (zrun zTab d 87 [this] c2) (fun v3 c4 =>
          if v3 = 0 then
            if c4 this (-1) = 10 then
              zbnd (zrun zTab d 84 [this, 1] c4) (fun _ c6 =>
                zex zc_X9_readRule zk_X9_readRule (zrun zTab d) 19999 16 [(2, this), (3, 0), (3, 0), (3, 0), (3, 0)] [] c6)
            else none
          else
            zex zc_X9_readRule zk_X9_readRule (zrun zTab d) 19999 16 [(2, this), (3, 0), (3, 0), (3, 0), (3, 0)] [] c4)
      else none)
  else none := (zrun_s zt80).trans (zf_X9_readRule _ _ this c)
set_option maxRecDepth 100000 in
theorem zf_X9_readRule_16 (call : zCall) (K : zK) (this : Int) (c : zC) : zseg zc_X9_readRule zk_X9_readRule call K 1000 16 [(2, this), (3, 0), (3, 0), (3, 0), (3, 0)] [] c =
  if c this (-1) = 10 then
    zbnd (call 90 [this, 4] c) (fun v1 c2 =>
      if c2 this (-1) = 10 then
        zbnd (call 88 [this, 62] c2) (fun _ c4 =>
          if c4 this (-1) = 10 then
            zbnd (call 90 [this, 3] c4) (fun v5 c6 =>
              if c6 this (-1) = 10 then
                zbnd (call 89 [this] c6) (fun _ c8 =>
                  if c8 this (-1) = 10 then
                    if c8 (c8 this 7) (-1) = 7 then
                      zbnd (call 59 [c8 this 7, v1, v5] c8) (fun _ c10 =>
                        if c10 this (-1) = 10 then
                          zbnd (call 83 [this] c10) (fun v11 c12 =>
                            if v11 = 0 ∨ v11 = 1 then some (v11, c12) else none)
                        else none)
                    else none
                  else none)
              else none)
          else none)
      else none)
  else none := by rfl
theorem ze_X9_readRule_16 (d F : Nat) (this : Int) (c : zC) : zex zc_X9_readRule zk_X9_readRule (zrun zTab d) (F + 1) 16 [(2, this), (3, 0), (3, 0), (3, 0), (3, 0)] [] c =
  if c this (-1) = 10 then
    zbnd (zrun zTab d 90 [this, 4] c) (fun v1 c2 =>
      if c2 this (-1) = 10 then
        zbnd (zrun zTab d 88 [this, 62] c2) (fun _ c4 =>
          if c4 this (-1) = 10 then
            zbnd (zrun zTab d 90 [this, 3] c4) (fun v5 c6 =>
              if c6 this (-1) = 10 then
                zbnd (zrun zTab d 89 [this] c6) (fun _ c8 =>
                  if c8 this (-1) = 10 then
                    if c8 (c8 this 7) (-1) = 7 then
                      zbnd (zrun zTab d 59 [c8 this 7, v1, v5] c8) (fun _ c10 =>
                        if c10 this (-1) = 10 then
                          zbnd (zrun zTab d 83 [this] c10) (fun v11 c12 =>
                            if v11 = 0 ∨ v11 = 1 then some (v11, c12) else none)
                        else none)
                    else none
                  else none)
              else none)
          else none)
      else none)
  else none := zf_X9_readRule_16 _ _ this c
set_option maxRecDepth 100000 in
theorem zf_X9_readWord (call : zCall) (K : zK) (this : Int) (c : zC) : zseg zc_X9_readWord zk_X9_readWord call K 1000 0 [(2, this)] [] c =
  if c this (-1) = 10 then
    zbnd (call 82 [this] c) (fun _ c2 =>
      if c2 this (-1) = 10 then
        zbnd (call 91 [this, 1] c2) (fun v3 c4 =>
          if c4 this (-1) = 10 then
            if (zup c4 this 8 v3) this (-1) = 10 then
              zbnd (call 89 [this] (zup c4 this 8 v3)) (fun _ c6 =>
                if c6 this (-1) = 10 then
                  zbnd (call 83 [this] c6) (fun v7 c8 =>
                    if v7 = 0 ∨ v7 = 1 then some (v7, c8) else none)
                else none)
            else none
          else none)
      else none)
  else none := by rfl
theorem ze_X9_readWord (d : Nat) (this : Int) (c : zC) : zrun zTab (d + 1) 81 [this] c =
  if c this (-1) = 10 then
    zbnd (zrun zTab d 82 [this] c) (fun _ c2 =>
      if c2 this (-1) = 10 then
        zbnd (zrun zTab d 91 [this, 1] c2) (fun v3 c4 =>
          if c4 this (-1) = 10 then
            if (zup c4 this 8 v3) this (-1) = 10 then
              zbnd (zrun zTab d 89 [this] (zup c4 this 8 v3)) (fun _ c6 =>
                if c6 this (-1) = 10 then
                  zbnd (zrun zTab d 83 [this] c6) (fun v7 c8 =>
                    if v7 = 0 ∨ v7 = 1 then some (v7, c8) else none)
                else none)
            else none
          else none)
      else none)
  else none := (zrun_s zt81).trans (zf_X9_readWord _ _ this c)
set_option maxRecDepth 100000 in
theorem zf_X9_start (call : zCall) (K : zK) (this : Int) (c : zC) : zseg zc_X9_start zk_X9_start call K 1000 0 [(2, this)] [] c =
  if c this (-1) = 10 then
    if (zup c this 2 0) this (-1) = 10 then
      some (0, zup (zup c this 2 0) this 3 (-1))
    else none
  else none := by rfl
theorem ze_X9_start (d : Nat) (this : Int) (c : zC) : zrun zTab (d + 1) 82 [this] c =
  if c this (-1) = 10 then
    if (zup c this 2 0) this (-1) = 10 then
      some (0, zup (zup c this 2 0) this 3 (-1))
    else none
  else none := (zrun_s zt82).trans (zf_X9_start _ _ this c)
set_option maxRecDepth 100000 in
theorem zf_X9_finish (call : zCall) (K : zK) (this : Int) (c : zC) : zseg zc_X9_finish zk_X9_finish call K 1000 0 [(2, this)] [] c =
  if c this (-1) = 10 then
    if (zup c this 1 0) this (-1) = 10 then
      if ((zup c this 1 0) this 3) = (-1) then
        some (1, zup c this 1 0)
      else
        some (0, zup c this 1 0)
    else none
  else none := by rfl
theorem ze_X9_finish (d : Nat) (this : Int) (c : zC) : zrun zTab (d + 1) 83 [this] c =
  if c this (-1) = 10 then
    if (zup c this 1 0) this (-1) = 10 then
      if ((zup c this 1 0) this 3) = (-1) then
        some (1, zup c this 1 0)
      else
        some (0, zup c this 1 0)
    else none
  else none := (zrun_s zt83).trans (zf_X9_finish _ _ this c)
set_option maxRecDepth 100000 in
theorem zf_X9_fail (call : zCall) (K : zK) (this x1 : Int) (c : zC) : zseg zc_X9_fail zk_X9_fail call K 1000 0 [(2, this), (0, x1)] [] c =
  if c this (-1) = 10 then
    if (c this 3) = (-1) then
      if c this (-1) = 10 then
        if c this (-1) = 10 then
          if (zup c this 3 (c this 2)) this (-1) = 10 then
            some (0, zup (zup c this 3 (c this 2)) this 4 x1)
          else none
        else none
      else none
    else
      some (0, c)
  else none := by rfl
theorem ze_X9_fail (d : Nat) (this x1 : Int) (c : zC) : zrun zTab (d + 1) 84 [this, x1] c =
  if c this (-1) = 10 then
    if (c this 3) = (-1) then
      if c this (-1) = 10 then
        if c this (-1) = 10 then
          if (zup c this 3 (c this 2)) this (-1) = 10 then
            some (0, zup (zup c this 3 (c this 2)) this 4 x1)
          else none
        else none
      else none
    else
      some (0, c)
  else none := (zrun_s zt84).trans (zf_X9_fail _ _ this x1 c)
set_option maxRecDepth 100000 in
theorem zf_X9_comingByte (call : zCall) (K : zK) (this : Int) (c : zC) : zseg zc_X9_comingByte zk_X9_comingByte call K 1000 0 [(2, this)] [] c =
  if c this (-1) = 10 then
    if (c this 2) < 0 then
      some ((-1), c)
    else
      if c this (-1) = 10 then
        if c this (-1) = 10 then
          if (c this 2) < (c this 1) then
            if c this (-1) = 10 then
              if c this (-1) = 10 then
                if c (c this 0) (-1) = 100 then
                  if (c this 2) < (c (c this 0) (-2)) then
                    if c this (-1) = 10 then
                      if c this (-1) = 10 then
                        if c (c this 0) (-1) = 100 ∧ (0 : Int) ≤ (c this 2) ∧ (c this 2) < c (c this 0) (-2) then
                          some (c (c this 0) (c this 2), c)
                        else none
                      else none
                    else none
                  else
                    some ((-1), c)
                else none
              else none
            else none
          else
            some ((-1), c)
        else none
      else none
  else none := by rfl
theorem ze_X9_comingByte (d : Nat) (this : Int) (c : zC) : zrun zTab (d + 1) 85 [this] c =
  if c this (-1) = 10 then
    if (c this 2) < 0 then
      some ((-1), c)
    else
      if c this (-1) = 10 then
        if c this (-1) = 10 then
          if (c this 2) < (c this 1) then
            if c this (-1) = 10 then
              if c this (-1) = 10 then
                if c (c this 0) (-1) = 100 then
                  if (c this 2) < (c (c this 0) (-2)) then
                    if c this (-1) = 10 then
                      if c this (-1) = 10 then
                        if c (c this 0) (-1) = 100 ∧ (0 : Int) ≤ (c this 2) ∧ (c this 2) < c (c this 0) (-2) then
                          some (c (c this 0) (c this 2), c)
                        else none
                      else none
                    else none
                  else
                    some ((-1), c)
                else none
              else none
            else none
          else
            some ((-1), c)
        else none
      else none
  else none := (zrun_s zt85).trans (zf_X9_comingByte _ _ this c)
set_option maxRecDepth 100000 in
theorem zf_X9_comes (call : zCall) (K : zK) (this x1 : Int) (c : zC) : zseg zc_X9_comes zk_X9_comes call K 1000 0 [(2, this), (0, x1)] [] c =
  if c this (-1) = 10 then
    if (c this 3) = (-1) then
      if c this (-1) = 10 then
        zbnd (call 85 [this] c) (fun v1 c2 =>
          if v1 = x1 then
            some (1, c2)
          else
            some (0, c2))
      else none
    else
      some (0, c)
  else none := by rfl
theorem ze_X9_comes (d : Nat) (this x1 : Int) (c : zC) : zrun zTab (d + 1) 86 [this, x1] c =
  if c this (-1) = 10 then
    if (c this 3) = (-1) then
      if c this (-1) = 10 then
        zbnd (zrun zTab d 85 [this] c) (fun v1 c2 =>
          if v1 = x1 then
            some (1, c2)
          else
            some (0, c2))
      else none
    else
      some (0, c)
  else none := (zrun_s zt86).trans (zf_X9_comes _ _ this x1 c)
set_option maxRecDepth 100000 in
theorem zf_X9_atLetter (call : zCall) (K : zK) (this : Int) (c : zC) : zseg zc_X9_atLetter zk_X9_atLetter call K 1000 0 [(2, this), (3, 0)] [] c =
  if c this (-1) = 10 then
    zbnd (call 85 [this] c) (fun v1 c2 =>
      if c2 this (-1) = 10 then
        if (c2 this 3) = (-1) then
          if v1 < 97 then
            some (0, c2)
          else
            if v1 ≤ 122 then
              some (1, c2)
            else
              some (0, c2)
        else
          some (0, c2)
      else none)
  else none := by rfl
theorem ze_X9_atLetter (d : Nat) (this : Int) (c : zC) : zrun zTab (d + 1) 87 [this] c =
  if c this (-1) = 10 then
    zbnd (zrun zTab d 85 [this] c) (fun v1 c2 =>
      if c2 this (-1) = 10 then
        if (c2 this 3) = (-1) then
          if v1 < 97 then
            some (0, c2)
          else
            if v1 ≤ 122 then
              some (1, c2)
            else
              some (0, c2)
        else
          some (0, c2)
      else none)
  else none := (zrun_s zt87).trans (zf_X9_atLetter _ _ this c)
set_option maxRecDepth 100000 in
theorem zf_X9_demand (call : zCall) (K : zK) (this x1 : Int) (c : zC) : zseg zc_X9_demand zk_X9_demand call K 1000 0 [(2, this), (0, x1)] [] c =
  if c this (-1) = 10 then
    zbnd (call 86 [this, x1] c) (fun v1 c2 =>
      if v1 = 0 then
        if c2 this (-1) = 10 then
          zbnd (call 84 [this, 1] c2) (fun _ c4 =>
            some (0, c4))
        else none
      else
        if c2 this (-1) = 10 then
          if c2 this (-1) = 10 then
            some (0, zup c2 this 2 (zadd (c2 this 2) 1))
          else none
        else none)
  else none := by rfl
theorem ze_X9_demand (d : Nat) (this x1 : Int) (c : zC) : zrun zTab (d + 1) 88 [this, x1] c =
  if c this (-1) = 10 then
    zbnd (zrun zTab d 86 [this, x1] c) (fun v1 c2 =>
      if v1 = 0 then
        if c2 this (-1) = 10 then
          zbnd (zrun zTab d 84 [this, 1] c2) (fun _ c4 =>
            some (0, c4))
        else none
      else
        if c2 this (-1) = 10 then
          if c2 this (-1) = 10 then
            some (0, zup c2 this 2 (zadd (c2 this 2) 1))
          else none
        else none)
  else none := (zrun_s zt88).trans (zf_X9_demand _ _ this x1 c)
set_option maxRecDepth 100000 in
theorem zf_X9_demandEnd (call : zCall) (K : zK) (this : Int) (c : zC) : zseg zc_X9_demandEnd zk_X9_demandEnd call K 1000 0 [(2, this)] [] c =
  if c this (-1) = 10 then
    zbnd (call 86 [this, (-1)] c) (fun v1 c2 =>
      if v1 = 0 then
        if c2 this (-1) = 10 then
          zbnd (call 84 [this, 1] c2) (fun _ c4 =>
            some (0, c4))
        else none
      else
        some (0, c2))
  else none := by rfl
theorem ze_X9_demandEnd (d : Nat) (this : Int) (c : zC) : zrun zTab (d + 1) 89 [this] c =
  if c this (-1) = 10 then
    zbnd (zrun zTab d 86 [this, (-1)] c) (fun v1 c2 =>
      if v1 = 0 then
        if c2 this (-1) = 10 then
          zbnd (zrun zTab d 84 [this, 1] c2) (fun _ c4 =>
            some (0, c4))
        else none
      else
        some (0, c2))
  else none := (zrun_s zt89).trans (zf_X9_demandEnd _ _ this c)
set_option maxRecDepth 100000 in
theorem zf_X9_takeLetters (call : zCall) (K : zK) (this x1 : Int) (c : zC) : zseg zc_X9_takeLetters zk_X9_takeLetters call K 1000 0 [(2, this), (0, x1), (3, 0), (3, 0), (3, 0)] [] c =
  K 5 [(2, this), (0, x1), (1, 0), (3, 0), (0, 0)] [] c := by rfl
theorem ze_X9_takeLetters (d : Nat) (this x1 : Int) (c : zC) : zrun zTab (d + 1) 90 [this, x1] c =
  zex zc_X9_takeLetters zk_X9_takeLetters (zrun zTab d) 19999 5 [(2, this), (0, x1), (1, 0), (3, 0), (0, 0)] [] c := (zrun_s zt90).trans (zf_X9_takeLetters _ _ this x1 c)
set_option maxRecDepth 100000 in
theorem zf_X9_takeLetters_5 (call : zCall) (K : zK) (this x1 x2 x4 : Int) (c : zC) : zseg zc_X9_takeLetters zk_X9_takeLetters call K 1000 5 [(2, this), (0, x1), (1, x2), (3, 0), (0, x4)] [] c =
  if x4 < 80 then
    if c this (-1) = 10 then
      zbnd (call 87 [this] c) (fun v1 c2 =>
        if v1 = 0 then
          some (x2, c2)
        else
          if x4 < x1 then
            if c2 this (-1) = 10 then
              zbnd (call 85 [this] c2) (fun v3 c4 =>
                zbnd (call 95 [x2, v3] c4) (fun v5 c6 =>
                  if c6 this (-1) = 10 then
                    if c6 this (-1) = 10 then
                      K 5 [(2, this), (0, x1), (1, v5), (3, 0), (0, zw (x4 + 1))] [] (zup c6 this 2 (zadd (c6 this 2) 1))
                    else none
                  else none))
            else none
          else
            if c2 this (-1) = 10 then
              zbnd (call 84 [this, 2] c2) (fun _ c8 =>
                K 5 [(2, this), (0, x1), (1, x2), (3, 0), (0, zw (x4 + 1))] [] c8)
            else none)
    else none
  else
    some (x2, c) := by rfl
theorem ze_X9_takeLetters_5 (d F : Nat) (this x1 x2 x4 : Int) (c : zC) : zex zc_X9_takeLetters zk_X9_takeLetters (zrun zTab d) (F + 1) 5 [(2, this), (0, x1), (1, x2), (3, 0), (0, x4)] [] c =
  if x4 < 80 then
    if c this (-1) = 10 then
      zbnd (zrun zTab d 87 [this] c) (fun v1 c2 =>
        if v1 = 0 then
          some (x2, c2)
        else
          if x4 < x1 then
            if c2 this (-1) = 10 then
              zbnd (zrun zTab d 85 [this] c2) (fun v3 c4 =>
                zbnd (zrun zTab d 95 [x2, v3] c4) (fun v5 c6 =>
                  if c6 this (-1) = 10 then
                    if c6 this (-1) = 10 then
                      zex zc_X9_takeLetters zk_X9_takeLetters (zrun zTab d) F 5 [(2, this), (0, x1), (1, v5), (3, 0), (0, zw (x4 + 1))] [] (zup c6 this 2 (zadd (c6 this 2) 1))
                    else none
                  else none))
            else none
          else
            if c2 this (-1) = 10 then
              zbnd (zrun zTab d 84 [this, 2] c2) (fun _ c8 =>
                zex zc_X9_takeLetters zk_X9_takeLetters (zrun zTab d) F 5 [(2, this), (0, x1), (1, x2), (3, 0), (0, zw (x4 + 1))] [] c8)
            else none)
    else none
  else
    some (x2, c) := zf_X9_takeLetters_5 _ _ this x1 x2 x4 c
set_option maxRecDepth 100000 in
theorem zf_X9_takeWord (call : zCall) (K : zK) (this x1 : Int) (c : zC) : zseg zc_X9_takeWord zk_X9_takeWord call K 1000 0 [(2, this), (0, x1)] [] c =
  if c this (-1) = 10 then
    zbnd (call 87 [this] c) (fun v1 c2 =>
      if v1 = 0 then
        if c2 this (-1) = 10 then
          zbnd (call 84 [this, 1] c2) (fun _ c4 =>
            if c4 this (-1) = 10 then
              zbnd (call 90 [this, 10] c4) (fun v5 c6 =>
                some (v5, c6))
            else none)
        else none
      else
        if x1 = 0 then
          if c2 this (-1) = 10 then
            zbnd (call 84 [this, 3] c2) (fun _ c8 =>
              if c8 this (-1) = 10 then
                zbnd (call 90 [this, 10] c8) (fun v9 c10 =>
                  some (v9, c10))
              else none)
          else none
        else
          if c2 this (-1) = 10 then
            zbnd (call 90 [this, 10] c2) (fun v11 c12 =>
              some (v11, c12))
          else none)
  else none := by rfl
theorem ze_X9_takeWord (d : Nat) (this x1 : Int) (c : zC) : zrun zTab (d + 1) 91 [this, x1] c =
  if c this (-1) = 10 then
    zbnd (zrun zTab d 87 [this] c) (fun v1 c2 =>
      if v1 = 0 then
        if c2 this (-1) = 10 then
          zbnd (zrun zTab d 84 [this, 1] c2) (fun _ c4 =>
            if c4 this (-1) = 10 then
              zbnd (zrun zTab d 90 [this, 10] c4) (fun v5 c6 =>
                some (v5, c6))
            else none)
        else none
      else
        if x1 = 0 then
          if c2 this (-1) = 10 then
            zbnd (zrun zTab d 84 [this, 3] c2) (fun _ c8 =>
              if c8 this (-1) = 10 then
                zbnd (zrun zTab d 90 [this, 10] c8) (fun v9 c10 =>
                  some (v9, c10))
              else none)
          else none
        else
          if c2 this (-1) = 10 then
            zbnd (zrun zTab d 90 [this, 10] c2) (fun v11 c12 =>
              some (v11, c12))
          else none)
  else none := (zrun_s zt91).trans (zf_X9_takeWord _ _ this x1 c)
set_option maxRecDepth 100000 in
theorem zf_X9_takeSections (call : zCall) (K : zK) (this : Int) (c : zC) : zseg zc_X9_takeSections zk_X9_takeSections call K 1000 0 [(2, this), (3, 0), (3, 0)] [] c =
  K 4 [(2, this), (0, 0), (0, 0)] [] c := by rfl
theorem ze_X9_takeSections (d : Nat) (this : Int) (c : zC) : zrun zTab (d + 1) 92 [this] c =
  zex zc_X9_takeSections zk_X9_takeSections (zrun zTab d) 19999 4 [(2, this), (0, 0), (0, 0)] [] c := (zrun_s zt92).trans (zf_X9_takeSections _ _ this c)
set_option maxRecDepth 100000 in
theorem zf_X9_takeSections_4 (call : zCall) (K : zK) (this x1 x2 : Int) (c : zC) : zseg zc_X9_takeSections zk_X9_takeSections call K 1000 4 [(2, this), (0, x1), (0, x2)] [] c =
  if x2 < 80 then
    if c this (-1) = 10 then
      if (c this 3) = (-1) then
        if c this (-1) = 10 then
          if c this (-1) = 10 then
            if c (c this 5) (-1) = 5 then
              if (c (c this 5) 2) < 20 then
                K 40 [(2, this), (0, x1), (0, x2)] [(0, 1), (2, this), (2, c this 5)] c
              else
                K 40 [(2, this), (0, x1), (0, x2)] [(0, 0), (2, this), (2, c this 5)] c
            else none
          else none
        else none
      else
        some (0, c)
    else none
  else
    some (0, c) := by rfl
theorem ze_X9_takeSections_4 (d F : Nat) (this x1 x2 : Int) (c : zC) : zex zc_X9_takeSections zk_X9_takeSections (zrun zTab d) (F + 1) 4 [(2, this), (0, x1), (0, x2)] [] c =
  if x2 < 80 then
    if c this (-1) = 10 then
      if (c this 3) = (-1) then
        if c this (-1) = 10 then
          if c this (-1) = 10 then
            if c (c this 5) (-1) = 5 then
              if (c (c this 5) 2) < 20 then
                zex zc_X9_takeSections zk_X9_takeSections (zrun zTab d) F 40 [(2, this), (0, x1), (0, x2)] [(0, 1), (2, this), (2, c this 5)] c
              else
                zex zc_X9_takeSections zk_X9_takeSections (zrun zTab d) F 40 [(2, this), (0, x1), (0, x2)] [(0, 0), (2, this), (2, c this 5)] c
            else none
          else none
        else none
      else
        some (0, c)
    else none
  else
    some (0, c) := zf_X9_takeSections_4 _ _ this x1 x2 c
set_option maxRecDepth 100000 in
theorem zf_X9_takeSections_40 (call : zCall) (K : zK) (this x1 x2 s0 s1 s2 : Int) (c : zC) : zseg zc_X9_takeSections zk_X9_takeSections call K 1000 40 [(2, this), (0, x1), (0, x2)] [(0, s2), (2, s1), (2, s0)] c =
  if c s1 (-1) = 10 then
    zbnd (call 91 [s1, s2] c) (fun v1 c2 =>
      if c2 s0 (-1) = 5 then
        zbnd (call 45 [s0, v1, x1] c2) (fun _ c4 =>
          if c4 this (-1) = 10 then
            zbnd (call 86 [this, (-1)] c4) (fun v5 c6 =>
              if v5 = 0 then
                if c6 this (-1) = 10 then
                  zbnd (call 88 [this, 32] c6) (fun _ c8 =>
                    if c8 this (-1) = 10 then
                      zbnd (call 86 [this, 47] c8) (fun v9 c10 =>
                        if v9 = 0 then
                          K 4 [(2, this), (0, x1), (0, zw (x2 + 1))] [] c10
                        else
                          if (zw (x1 + 1)) < 4 then
                            if c10 this (-1) = 10 then
                              zbnd (call 88 [this, 47] c10) (fun _ c12 =>
                                if c12 this (-1) = 10 then
                                  zbnd (call 88 [this, 32] c12) (fun _ c14 =>
                                    K 4 [(2, this), (0, zw (x1 + 1)), (0, zw (x2 + 1))] [] c14)
                                else none)
                            else none
                          else
                            if c10 this (-1) = 10 then
                              zbnd (call 84 [this, 3] c10) (fun _ c16 =>
                                if c16 this (-1) = 10 then
                                  zbnd (call 88 [this, 47] c16) (fun _ c18 =>
                                    if c18 this (-1) = 10 then
                                      zbnd (call 88 [this, 32] c18) (fun _ c20 =>
                                        K 4 [(2, this), (0, zw (x1 + 1)), (0, zw (x2 + 1))] [] c20)
                                    else none)
                                else none)
                            else none)
                    else none)
                else none
              else
                some (0, c6))
          else none)
      else none)
  else none := by rfl
theorem ze_X9_takeSections_40 (d F : Nat) (this x1 x2 s0 s1 s2 : Int) (c : zC) : zex zc_X9_takeSections zk_X9_takeSections (zrun zTab d) (F + 1) 40 [(2, this), (0, x1), (0, x2)] [(0, s2), (2, s1), (2, s0)] c =
  if c s1 (-1) = 10 then
    zbnd (zrun zTab d 91 [s1, s2] c) (fun v1 c2 =>
      if c2 s0 (-1) = 5 then
        zbnd (zrun zTab d 45 [s0, v1, x1] c2) (fun _ c4 =>
          if c4 this (-1) = 10 then
            zbnd (zrun zTab d 86 [this, (-1)] c4) (fun v5 c6 =>
              if v5 = 0 then
                if c6 this (-1) = 10 then
                  zbnd (zrun zTab d 88 [this, 32] c6) (fun _ c8 =>
                    if c8 this (-1) = 10 then
                      zbnd (zrun zTab d 86 [this, 47] c8) (fun v9 c10 =>
                        if v9 = 0 then
                          zex zc_X9_takeSections zk_X9_takeSections (zrun zTab d) F 4 [(2, this), (0, x1), (0, zw (x2 + 1))] [] c10
                        else
                          if (zw (x1 + 1)) < 4 then
                            if c10 this (-1) = 10 then
                              zbnd (zrun zTab d 88 [this, 47] c10) (fun _ c12 =>
                                if c12 this (-1) = 10 then
                                  zbnd (zrun zTab d 88 [this, 32] c12) (fun _ c14 =>
                                    zex zc_X9_takeSections zk_X9_takeSections (zrun zTab d) F 4 [(2, this), (0, zw (x1 + 1)), (0, zw (x2 + 1))] [] c14)
                                else none)
                            else none
                          else
                            if c10 this (-1) = 10 then
                              zbnd (zrun zTab d 84 [this, 3] c10) (fun _ c16 =>
                                if c16 this (-1) = 10 then
                                  zbnd (zrun zTab d 88 [this, 47] c16) (fun _ c18 =>
                                    if c18 this (-1) = 10 then
                                      zbnd (zrun zTab d 88 [this, 32] c18) (fun _ c20 =>
                                        zex zc_X9_takeSections zk_X9_takeSections (zrun zTab d) F 4 [(2, this), (0, zw (x1 + 1)), (0, zw (x2 + 1))] [] c20)
                                    else none)
                                else none)
                            else none)
                    else none)
                else none
              else
                some (0, c6))
          else none)
      else none)
  else none := zf_X9_takeSections_40 _ _ this x1 x2 s0 s1 s2 c
set_option maxRecDepth 100000 in
theorem zf_X9_takeHints (call : zCall) (K : zK) (this : Int) (c : zC) : zseg zc_X9_takeHints zk_X9_takeHints call K 1000 0 [(2, this), (3, 0)] [] c =
  K 2 [(2, this), (0, 0)] [] c := by rfl
theorem ze_X9_takeHints (d : Nat) (this : Int) (c : zC) : zrun zTab (d + 1) 93 [this] c =
  zex zc_X9_takeHints zk_X9_takeHints (zrun zTab d) 19999 2 [(2, this), (0, 0)] [] c := (zrun_s zt93).trans (zf_X9_takeHints _ _ this c)
set_option maxRecDepth 100000 in
theorem zf_X9_takeHints_2 (call : zCall) (K : zK) (this x1 : Int) (c : zC) : zseg zc_X9_takeHints zk_X9_takeHints call K 1000 2 [(2, this), (0, x1)] [] c =
  if x1 ≤ 4 then
    if c this (-1) = 10 then
      if (c this 3) = (-1) then
        if c this (-1) = 10 then
          if c this (-1) = 10 then
            if c (c this 6) (-1) = 8 then
              if (c (c this 6) 2) < 4 then
                if c this (-1) = 10 then
                  zbnd (call 91 [this, 1] c) (fun v1 c2 =>
                    if c2 (c this 6) (-1) = 8 then
                      zbnd (call 64 [c this 6, v1] c2) (fun _ c4 =>
                        if c4 this (-1) = 10 then
                          zbnd (call 86 [this, 44] c4) (fun v5 c6 =>
                            if v5 = 0 then
                              some (0, c6)
                            else
                              if c6 this (-1) = 10 then
                                zbnd (call 88 [this, 44] c6) (fun _ c8 =>
                                  K 2 [(2, this), (0, zw (x1 + 1))] [] c8)
                              else none)
                        else none)
                    else none)
                else none
              else
                if c this (-1) = 10 then
                  zbnd (call 91 [this, 0] c) (fun v9 c10 =>
                    if c10 (c this 6) (-1) = 8 then
                      zbnd (call 64 [c this 6, v9] c10) (fun _ c12 =>
                        if c12 this (-1) = 10 then
                          zbnd (call 86 [this, 44] c12) (fun v13 c14 =>
                            if v13 = 0 then
                              some (0, c14)
                            else
                              if c14 this (-1) = 10 then
                                zbnd (call 88 [this, 44] c14) (fun _ c16 =>
                                  K 2 [(2, this), (0, zw (x1 + 1))] [] c16)
                              else none)
                        else none)
                    else none)
                else none
            else none
          else none
        else none
      else
        some (0, c)
    else none
  else
    some (0, c) := by rfl
theorem ze_X9_takeHints_2 (d F : Nat) (this x1 : Int) (c : zC) : zex zc_X9_takeHints zk_X9_takeHints (zrun zTab d) (F + 1) 2 [(2, this), (0, x1)] [] c =
  if x1 ≤ 4 then
    if c this (-1) = 10 then
      if (c this 3) = (-1) then
        if c this (-1) = 10 then
          if c this (-1) = 10 then
            if c (c this 6) (-1) = 8 then
              if (c (c this 6) 2) < 4 then
                if c this (-1) = 10 then
                  zbnd (zrun zTab d 91 [this, 1] c) (fun v1 c2 =>
                    if c2 (c this 6) (-1) = 8 then
                      zbnd (zrun zTab d 64 [c this 6, v1] c2) (fun _ c4 =>
                        if c4 this (-1) = 10 then
                          zbnd (zrun zTab d 86 [this, 44] c4) (fun v5 c6 =>
                            if v5 = 0 then
                              some (0, c6)
                            else
                              if c6 this (-1) = 10 then
                                zbnd (zrun zTab d 88 [this, 44] c6) (fun _ c8 =>
                                  zex zc_X9_takeHints zk_X9_takeHints (zrun zTab d) F 2 [(2, this), (0, zw (x1 + 1))] [] c8)
                              else none)
                        else none)
                    else none)
                else none
              else
                if c this (-1) = 10 then
                  zbnd (zrun zTab d 91 [this, 0] c) (fun v9 c10 =>
                    if c10 (c this 6) (-1) = 8 then
                      zbnd (zrun zTab d 64 [c this 6, v9] c10) (fun _ c12 =>
                        if c12 this (-1) = 10 then
                          zbnd (zrun zTab d 86 [this, 44] c12) (fun v13 c14 =>
                            if v13 = 0 then
                              some (0, c14)
                            else
                              if c14 this (-1) = 10 then
                                zbnd (zrun zTab d 88 [this, 44] c14) (fun _ c16 =>
                                  zex zc_X9_takeHints zk_X9_takeHints (zrun zTab d) F 2 [(2, this), (0, zw (x1 + 1))] [] c16)
                              else none)
                        else none)
                    else none)
                else none
            else none
          else none
        else none
      else
        some (0, c)
    else none
  else
    some (0, c) := zf_X9_takeHints_2 _ _ this x1 c
set_option maxRecDepth 100000 in
theorem zf_X9_takeOwnPage (call : zCall) (K : zK) (this : Int) (c : zC) : zseg zc_X9_takeOwnPage zk_X9_takeOwnPage call K 1000 0 [(2, this), (3, 0)] [] c =
  if c this (-1) = 10 then
    zbnd (call 88 [this, 64] c) (fun _ c2 =>
      if c2 this (-1) = 10 then
        zbnd (call 85 [this] c2) (fun v3 c4 =>
          if (zsub v3 48) < 0 then
            if c4 this (-1) = 10 then
              zbnd (call 84 [this, 1] c4) (fun _ c6 =>
                some (0, c6))
            else none
          else
            if (zsub v3 48) < 4 then
              if c4 this (-1) = 10 then
                if c4 (c4 this 6) (-1) = 8 then
                  if (zup c4 (c4 this 6) 3 (zsub v3 48)) this (-1) = 10 then
                    if (zup c4 (c4 this 6) 3 (zsub v3 48)) this (-1) = 10 then
                      some (0, zup (zup c4 (c4 this 6) 3 (zsub v3 48)) this 2 (zadd ((zup c4 (c4 this 6) 3 (zsub v3 48)) this 2) 1))
                    else none
                  else none
                else none
              else none
            else
              if c4 this (-1) = 10 then
                zbnd (call 84 [this, 1] c4) (fun _ c8 =>
                  some (0, c8))
              else none)
      else none)
  else none := by rfl
theorem ze_X9_takeOwnPage (d : Nat) (this : Int) (c : zC) : zrun zTab (d + 1) 94 [this] c =
  if c this (-1) = 10 then
    zbnd (zrun zTab d 88 [this, 64] c) (fun _ c2 =>
      if c2 this (-1) = 10 then
        zbnd (zrun zTab d 85 [this] c2) (fun v3 c4 =>
          if (zsub v3 48) < 0 then
            if c4 this (-1) = 10 then
              zbnd (zrun zTab d 84 [this, 1] c4) (fun _ c6 =>
                some (0, c6))
            else none
          else
            if (zsub v3 48) < 4 then
              if c4 this (-1) = 10 then
                if c4 (c4 this 6) (-1) = 8 then
                  if (zup c4 (c4 this 6) 3 (zsub v3 48)) this (-1) = 10 then
                    if (zup c4 (c4 this 6) 3 (zsub v3 48)) this (-1) = 10 then
                      some (0, zup (zup c4 (c4 this 6) 3 (zsub v3 48)) this 2 (zadd ((zup c4 (c4 this 6) 3 (zsub v3 48)) this 2) 1))
                    else none
                  else none
                else none
              else none
            else
              if c4 this (-1) = 10 then
                zbnd (zrun zTab d 84 [this, 1] c4) (fun _ c8 =>
                  some (0, c8))
              else none)
      else none)
  else none := (zrun_s zt94).trans (zf_X9_takeOwnPage _ _ this c)
