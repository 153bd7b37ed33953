set_option maxRecDepth 100000 in
theorem zf_X11_init (call : zCall) (K : zK) (this : Int) (c : zC) : zseg zc_X11_init zk_X11_init call K 1000 0 [(2, this), (3, 0)] [] c =
  if this = 0 then none else
    if (znew c 10 9) (c 0 0) (-1) = 10 then
      zbnd (call 76 [c 0 0] (znew c 10 9)) (fun _ c2 =>
        if c2 this (-1) = 11 then
          K 15 [(2, this), (3, 0)] [] (zup c2 this 0 (c 0 0))
        else none)
    else none := by rfl
theorem ze_X11_init (d : Nat) (this : Int) (c : zC) : zrun zTab (d + 1) 98 [this] c =
  if this = 0 then none else
    if (znew c 10 9) (c 0 0) (-1) = 10 then
      zbnd (zrun zTab d 76 [c 0 0] (znew c 10 9)) (fun _ c2 =>
        if c2 this (-1) = 11 then
          zex zc_X11_init zk_X11_init (zrun zTab d) 19999 15 [(2, this), (3, 0)] [] (zup c2 this 0 (c 0 0))
        else none)
    else none := (zrun_s zt98).trans (zf_X11_init _ _ this c)
set_option maxRecDepth 100000 in
theorem zf_X11_init_15 (call : zCall) (K : zK) (this : Int) (c : zC) : zseg zc_X11_init zk_X11_init call K 1000 15 [(2, this), (3, 0)] [] c =
  if (znew c 9 7) (c 0 0) (-1) = 9 then
    zbnd (call 66 [c 0 0] (znew c 9 7)) (fun _ c2 =>
      if c2 this (-1) = 11 then
        K 26 [(2, this), (3, 0)] [] (zup c2 this 1 (c 0 0))
      else none)
  else none := by rfl
theorem ze_X11_init_15 (d F : Nat) (this : Int) (c : zC) : zex zc_X11_init zk_X11_init (zrun zTab d) (F + 1) 15 [(2, this), (3, 0)] [] c =
  if (znew c 9 7) (c 0 0) (-1) = 9 then
    zbnd (zrun zTab d 66 [c 0 0] (znew c 9 7)) (fun _ c2 =>
      if c2 this (-1) = 11 then
        zex zc_X11_init zk_X11_init (zrun zTab d) F 26 [(2, this), (3, 0)] [] (zup c2 this 1 (c 0 0))
      else none)
  else none := zf_X11_init_15 _ _ this c
set_option maxRecDepth 100000 in
theorem zf_X11_init_26 (call : zCall) (K : zK) (this : Int) (c : zC) : zseg zc_X11_init zk_X11_init call K 1000 26 [(2, this), (3, 0)] [] c =
  if (znew c 9 7) (c 0 0) (-1) = 9 then
    zbnd (call 66 [c 0 0] (znew c 9 7)) (fun _ c2 =>
      if c2 this (-1) = 11 then
        K 37 [(2, this), (3, 0)] [] (zup c2 this 2 (c 0 0))
      else none)
  else none := by rfl
theorem ze_X11_init_26 (d F : Nat) (this : Int) (c : zC) : zex zc_X11_init zk_X11_init (zrun zTab d) (F + 1) 26 [(2, this), (3, 0)] [] c =
  if (znew c 9 7) (c 0 0) (-1) = 9 then
    zbnd (zrun zTab d 66 [c 0 0] (znew c 9 7)) (fun _ c2 =>
      if c2 this (-1) = 11 then
        zex zc_X11_init zk_X11_init (zrun zTab d) F 37 [(2, this), (3, 0)] [] (zup c2 this 2 (c 0 0))
      else none)
  else none := zf_X11_init_26 _ _ this c
set_option maxRecDepth 100000 in
theorem zf_X11_init_37 (call : zCall) (K : zK) (this : Int) (c : zC) : zseg zc_X11_init zk_X11_init call K 1000 37 [(2, this), (3, 0)] [] c =
  if (znew c 3 2) (c 0 0) (-1) = 3 then
    zbnd (call 10 [c 0 0] (znew c 3 2)) (fun _ c2 =>
      if c2 this (-1) = 11 then
        K 48 [(2, this), (3, 0)] [] (zup c2 this 4 (c 0 0))
      else none)
  else none := by rfl
theorem ze_X11_init_37 (d F : Nat) (this : Int) (c : zC) : zex zc_X11_init zk_X11_init (zrun zTab d) (F + 1) 37 [(2, this), (3, 0)] [] c =
  if (znew c 3 2) (c 0 0) (-1) = 3 then
    zbnd (zrun zTab d 10 [c 0 0] (znew c 3 2)) (fun _ c2 =>
      if c2 this (-1) = 11 then
        zex zc_X11_init zk_X11_init (zrun zTab d) F 48 [(2, this), (3, 0)] [] (zup c2 this 4 (c 0 0))
      else none)
  else none := zf_X11_init_37 _ _ this c
set_option maxRecDepth 100000 in
theorem zf_X11_init_48 (call : zCall) (K : zK) (this : Int) (c : zC) : zseg zc_X11_init zk_X11_init call K 1000 48 [(2, this), (3, 0)] [] c =
  if (znew c 113 4) this (-1) = 11 then
    K 56 [(2, this), (3, 0)] [] (zup (znew c 113 4) this 5 (c 0 0))
  else none := by rfl
theorem ze_X11_init_48 (d F : Nat) (this : Int) (c : zC) : zex zc_X11_init zk_X11_init (zrun zTab d) (F + 1) 48 [(2, this), (3, 0)] [] c =
  if (znew c 113 4) this (-1) = 11 then
    zex zc_X11_init zk_X11_init (zrun zTab d) F 56 [(2, this), (3, 0)] [] (zup (znew c 113 4) this 5 (c 0 0))
  else none := zf_X11_init_48 _ _ this c
set_option maxRecDepth 100000 in
theorem zf_X11_init_56 (call : zCall) (K : zK) (this : Int) (c : zC) : zseg zc_X11_init zk_X11_init call K 1000 56 [(2, this), (3, 0)] [] c =
  if (znew c 2 5) (c 0 0) (-1) = 2 then
    zbnd (call 6 [c 0 0] (znew c 2 5)) (fun _ c2 =>
      if c2 this (-1) = 11 then
        K 67 [(2, this), (3, 0)] [] (zup c2 this 6 (c 0 0))
      else none)
  else none := by rfl
theorem ze_X11_init_56 (d F : Nat) (this : Int) (c : zC) : zex zc_X11_init zk_X11_init (zrun zTab d) (F + 1) 56 [(2, this), (3, 0)] [] c =
  if (znew c 2 5) (c 0 0) (-1) = 2 then
    zbnd (zrun zTab d 6 [c 0 0] (znew c 2 5)) (fun _ c2 =>
      if c2 this (-1) = 11 then
        zex zc_X11_init zk_X11_init (zrun zTab d) F 67 [(2, this), (3, 0)] [] (zup c2 this 6 (c 0 0))
      else none)
  else none := zf_X11_init_56 _ _ this c
set_option maxRecDepth 100000 in
theorem zf_X11_init_67 (call : zCall) (K : zK) (this : Int) (c : zC) : zseg zc_X11_init zk_X11_init call K 1000 67 [(2, this), (3, 0)] [] c =
  K 69 [(2, this), (0, 0)] [] c := by rfl
theorem ze_X11_init_67 (d F : Nat) (this : Int) (c : zC) : zex zc_X11_init zk_X11_init (zrun zTab d) (F + 1) 67 [(2, this), (3, 0)] [] c =
  zex zc_X11_init zk_X11_init (zrun zTab d) F 69 [(2, this), (0, 0)] [] c := zf_X11_init_67 _ _ this c
set_option maxRecDepth 100000 in
theorem zf_X11_init_69 (call : zCall) (K : zK) (this x1 : Int) (c : zC) : zseg zc_X11_init zk_X11_init call K 1000 69 [(2, this), (0, x1)] [] c =
  if c this (-1) = 11 then
    if c (c this 5) (-1) = 113 then
      if x1 < (c (c this 5) (-2)) then
        if c this (-1) = 11 then
          if (znew c 4 14) (c 0 0) (-1) = 4 then
            zbnd (call 14 [c 0 0] (znew c 4 14)) (fun _ c2 =>
              if c2 (c this 5) (-1) = 113 ∧ (0 : Int) ≤ x1 ∧ x1 < c2 (c this 5) (-2) then
                if c2 (c 0 0) (-1) = 4 then
                  K 69 [(2, this), (0, zw (x1 + 1))] [] (zup c2 (c this 5) x1 (c 0 0))
                else none
              else none)
          else none
        else none
      else
        some (0, c)
    else none
  else none := by rfl
theorem ze_X11_init_69 (d F : Nat) (this x1 : Int) (c : zC) : zex zc_X11_init zk_X11_init (zrun zTab d) (F + 1) 69 [(2, this), (0, x1)] [] c =
  if c this (-1) = 11 then
    if c (c this 5) (-1) = 113 then
      if x1 < (c (c this 5) (-2)) then
        if c this (-1) = 11 then
          if (znew c 4 14) (c 0 0) (-1) = 4 then
            zbnd (zrun zTab d 14 [c 0 0] (znew c 4 14)) (fun _ c2 =>
              if c2 (c this 5) (-1) = 113 ∧ (0 : Int) ≤ x1 ∧ x1 < c2 (c this 5) (-2) then
                if c2 (c 0 0) (-1) = 4 then
                  zex zc_X11_init zk_X11_init (zrun zTab d) F 69 [(2, this), (0, zw (x1 + 1))] [] (zup c2 (c this 5) x1 (c 0 0))
                else none
              else none)
          else none
        else none
      else
        some (0, c)
    else none
  else none := zf_X11_init_69 _ _ this x1 c
set_option maxRecDepth 100000 in
theorem zf_X11_feed (call : zCall) (K : zK) (this x1 x2 x3 x4 x5 x6 : Int) (c : zC) : zseg zc_X11_feed zk_X11_feed call K 1000 0 [(2, this), (0, x1), (0, x2), (0, x3), (0, x4), (0, x5), (0, x6)] [] c =
  if x1 < 1 then
    some ((-2), c)
  else
    if x1 ≤ 5 then
      zbnd (call 124 [x2] c) (fun v1 c2 =>
        if v1 = 0 then
          some ((-2), c2)
        else
          zbnd (call 124 [x3] c2) (fun v3 c4 =>
            if v3 = 0 then
              some ((-2), c4)
            else
              zbnd (call 124 [x4] c4) (fun v5 c6 =>
                if v5 = 0 then
                  some ((-2), c6)
                else
                  zbnd (call 124 [x5] c6) (fun v7 c8 =>
                    if v7 = 0 then
                      some ((-2), c8)
                    else
                      zbnd (call 124 [x6] c8) (fun v9 c10 =>
                        if v9 = 0 then
                          some ((-2), c10)
                        else
                          if c10 this (-1) = 11 then
                            if c10 (c10 this 0) (-1) = 10 then
                              if (zadd (c10 (c10 this 0) 1) x1) ≤ 80 then
                                if c10 this (-1) = 11 then
                                  if c10 (c10 this 0) (-1) = 10 then
                                    zbnd (call 77 [c10 this 0, x2] c10) (fun _ c12 =>
                                      if x1 ≤ 1 then
                                        if x1 ≤ 2 then
                                          K 103 [(2, this), (0, x1), (3, 0), (3, 0), (3, 0), (0, x5), (0, x6)] [] c12
                                        else
                                          if c12 this (-1) = 11 then
                                            if c12 (c12 this 0) (-1) = 10 then
                                              zbnd (call 77 [c12 this 0, x4] c12) (fun _ c14 =>
                                                K 103 [(2, this), (0, x1), (3, 0), (3, 0), (3, 0), (0, x5), (0, x6)] [] c14)
                                            else none
                                          else none
                                      else
                                        if c12 this (-1) = 11 then
                                          if c12 (c12 this 0) (-1) = 10 then
                                            zbnd (call 77 [c12 this 0, x3] c12) (fun _ c16 =>
                                              if x1 ≤ 2 then
                                                K 103 [(2, this), (0, x1), (3, 0), (3, 0), (3, 0), (0, x5), (0, x6)] [] c16
                                              else
                                                if c16 this (-1) = 11 then
                                                  if c16 (c16 this 0) (-1) = 10 then
                                                    zbnd (call 77 [c16 this 0, x4] c16) (fun _ c18 =>
                                                      K 103 [(2, this), (0, x1), (3, 0), (3, 0), (3, 0), (0, x5), (0, x6)] [] c18)
                                                  else none
                                                else none)
                                          else none
                                        else none)
                                  else none
                                else none
                              else
                                some ((-4), c10)
                            else none
                          else none)))))
    else
      some ((-2), c) := by rfl
theorem ze_X11_feed (d : Nat) (this x1 x2 x3 x4 x5 x6 : Int) (c : zC) : zrun zTab (d + 1) 99 [this, x1, x2, x3, x4, x5, x6] c =
  if x1 < 1 then
    some ((-2), c)
  else
    if x1 ≤ 5 then
      zbnd (zrun zTab d 124 [x2] c) (fun v1 c2 =>
        if v1 = 0 then
          some ((-2), c2)
        else
          zbnd (zrun zTab d 124 [x3] c2) (fun v3 c4 =>
            if v3 = 0 then
              some ((-2), c4)
            else
              zbnd (zrun zTab d 124 [x4] c4) (fun v5 c6 =>
                if v5 = 0 then
                  some ((-2), c6)
                else
                  zbnd (zrun zTab d 124 [x5] c6) (fun v7 c8 =>
                    if v7 = 0 then
                      some ((-2), c8)
                    else
                      zbnd (zrun zTab d 124 [x6] c8) (fun v9 c10 =>
                        if v9 = 0 then
                          some ((-2), c10)
                        else
                          if c10 this (-1) = 11 then
                            if c10 (c10 this 0) (-1) = 10 then
                              if (zadd (c10 (c10 this 0) 1) x1) ≤ 80 then
                                if c10 this (-1) = 11 then
                                  if c10 (c10 this 0) (-1) = 10 then
                                    zbnd (zrun zTab d 77 [c10 this 0, x2] c10) (fun _ c12 =>
                                      if x1 ≤ 1 then
                                        if x1 ≤ 2 then
                                          zex zc_X11_feed zk_X11_feed (zrun zTab d) 19999 103 [(2, this), (0, x1), (3, 0), (3, 0), (3, 0), (0, x5), (0, x6)] [] c12
                                        else
                                          if c12 this (-1) = 11 then
                                            if c12 (c12 this 0) (-1) = 10 then
                                              zbnd (zrun zTab d 77 [c12 this 0, x4] c12) (fun _ c14 =>
                                                zex zc_X11_feed zk_X11_feed (zrun zTab d) 19999 103 [(2, this), (0, x1), (3, 0), (3, 0), (3, 0), (0, x5), (0, x6)] [] c14)
                                            else none
                                          else none
                                      else
                                        if c12 this (-1) = 11 then
                                          if c12 (c12 this 0) (-1) = 10 then
                                            zbnd (zrun zTab d 77 [c12 this 0, x3] c12) (fun _ c16 =>
                                              if x1 ≤ 2 then
                                                zex zc_X11_feed zk_X11_feed (zrun zTab d) 19999 103 [(2, this), (0, x1), (3, 0), (3, 0), (3, 0), (0, x5), (0, x6)] [] c16
                                              else
                                                if c16 this (-1) = 11 then
                                                  if c16 (c16 this 0) (-1) = 10 then
                                                    zbnd (zrun zTab d 77 [c16 this 0, x4] c16) (fun _ c18 =>
                                                      zex zc_X11_feed zk_X11_feed (zrun zTab d) 19999 103 [(2, this), (0, x1), (3, 0), (3, 0), (3, 0), (0, x5), (0, x6)] [] c18)
                                                  else none
                                                else none)
                                          else none
                                        else none)
                                  else none
                                else none
                              else
                                some ((-4), c10)
                            else none
                          else none)))))
    else
      some ((-2), c) := (zrun_s zt99).trans (zf_X11_feed _ _ this x1 x2 x3 x4 x5 x6 c)
set_option maxRecDepth 100000 in
theorem zf_X11_feed_103 (call : zCall) (K : zK) (this x1 x5 x6 : Int) (c : zC) : zseg zc_X11_feed zk_X11_feed call K 1000 103 [(2, this), (0, x1), (3, 0), (3, 0), (3, 0), (0, x5), (0, x6)] [] c =
  if x1 ≤ 3 then
    if x1 ≤ 4 then
      if c this (-1) = 11 then
        if c (c this 0) (-1) = 10 then
          some (c (c this 0) 1, c)
        else none
      else none
    else
      if c this (-1) = 11 then
        if c (c this 0) (-1) = 10 then
          zbnd (call 77 [c this 0, x6] c) (fun _ c2 =>
            if c2 this (-1) = 11 then
              if c2 (c2 this 0) (-1) = 10 then
                some (c2 (c2 this 0) 1, c2)
              else none
            else none)
        else none
      else none
  else
    if c this (-1) = 11 then
      if c (c this 0) (-1) = 10 then
        zbnd (call 77 [c this 0, x5] c) (fun _ c4 =>
          if x1 ≤ 4 then
            if c4 this (-1) = 11 then
              if c4 (c4 this 0) (-1) = 10 then
                some (c4 (c4 this 0) 1, c4)
              else none
            else none
          else
            if c4 this (-1) = 11 then
              if c4 (c4 this 0) (-1) = 10 then
                zbnd (call 77 [c4 this 0, x6] c4) (fun _ c6 =>
                  if c6 this (-1) = 11 then
                    if c6 (c6 this 0) (-1) = 10 then
                      some (c6 (c6 this 0) 1, c6)
                    else none
                  else none)
              else none
            else none)
      else none
    else none := by rfl
theorem ze_X11_feed_103 (d F : Nat) (this x1 x5 x6 : Int) (c : zC) : zex zc_X11_feed zk_X11_feed (zrun zTab d) (F + 1) 103 [(2, this), (0, x1), (3, 0), (3, 0), (3, 0), (0, x5), (0, x6)] [] c =
  if x1 ≤ 3 then
    if x1 ≤ 4 then
      if c this (-1) = 11 then
        if c (c this 0) (-1) = 10 then
          some (c (c this 0) 1, c)
        else none
      else none
    else
      if c this (-1) = 11 then
        if c (c this 0) (-1) = 10 then
          zbnd (zrun zTab d 77 [c this 0, x6] c) (fun _ c2 =>
            if c2 this (-1) = 11 then
              if c2 (c2 this 0) (-1) = 10 then
                some (c2 (c2 this 0) 1, c2)
              else none
            else none)
        else none
      else none
  else
    if c this (-1) = 11 then
      if c (c this 0) (-1) = 10 then
        zbnd (zrun zTab d 77 [c this 0, x5] c) (fun _ c4 =>
          if x1 ≤ 4 then
            if c4 this (-1) = 11 then
              if c4 (c4 this 0) (-1) = 10 then
                some (c4 (c4 this 0) 1, c4)
              else none
            else none
          else
            if c4 this (-1) = 11 then
              if c4 (c4 this 0) (-1) = 10 then
                zbnd (zrun zTab d 77 [c4 this 0, x6] c4) (fun _ c6 =>
                  if c6 this (-1) = 11 then
                    if c6 (c6 this 0) (-1) = 10 then
                      some (c6 (c6 this 0) 1, c6)
                    else none
                  else none)
              else none
            else none)
      else none
    else none := zf_X11_feed_103 _ _ this x1 x5 x6 c
set_option maxRecDepth 100000 in
theorem zf_X11_page (call : zCall) (K : zK) (this x1 : Int) (c : zC) : zseg zc_X11_page zk_X11_page call K 1000 0 [(2, this), (0, x1), (3, 0)] [] c =
  if c this (-1) = 11 then
    if c (c this 1) (-1) = 9 then
      zbnd (call 67 [c this 1, x1] c) (fun v1 c2 =>
        if v1 = 0 then
          some ((-1), c2)
        else
          if c2 this (-1) = 11 then
            if c2 (c2 this 0) (-1) = 10 then
              zbnd (call 78 [c2 this 0] c2) (fun v3 c4 =>
                if v3 = 0 then
                  if c4 this (-1) = 11 then
                    if c4 (c4 this 0) (-1) = 10 then
                      some (zsub (-100) (c4 (c4 this 0) 3), c4)
                    else none
                  else none
                else
                  if c4 this (-1) = 11 then
                    zbnd (call 126 [this] c4) (fun _ c6 =>
                      if c6 this (-1) = 11 then
                        if c6 (c6 this 0) (-1) = 10 then
                          if c6 v1 (-1) = 5 then
                            zbnd (call 51 [v1, c6 (c6 this 0) 5] c6) (fun _ c8 =>
                              if c8 v1 (-1) = 5 then
                                some (c8 v1 2, c8)
                              else none)
                          else none
                        else none
                      else none)
                  else none)
            else none
          else none)
    else none
  else none := by rfl
theorem ze_X11_page (d : Nat) (this x1 : Int) (c : zC) : zrun zTab (d + 1) 100 [this, x1] c =
  if c this (-1) = 11 then
    if c (c this 1) (-1) = 9 then
      zbnd (zrun zTab d 67 [c this 1, x1] c) (fun v1 c2 =>
        if v1 = 0 then
          some ((-1), c2)
        else
          if c2 this (-1) = 11 then
            if c2 (c2 this 0) (-1) = 10 then
              zbnd (zrun zTab d 78 [c2 this 0] c2) (fun v3 c4 =>
                if v3 = 0 then
                  if c4 this (-1) = 11 then
                    if c4 (c4 this 0) (-1) = 10 then
                      some (zsub (-100) (c4 (c4 this 0) 3), c4)
                    else none
                  else none
                else
                  if c4 this (-1) = 11 then
                    zbnd (zrun zTab d 126 [this] c4) (fun _ c6 =>
                      if c6 this (-1) = 11 then
                        if c6 (c6 this 0) (-1) = 10 then
                          if c6 v1 (-1) = 5 then
                            zbnd (zrun zTab d 51 [v1, c6 (c6 this 0) 5] c6) (fun _ c8 =>
                              if c8 v1 (-1) = 5 then
                                some (c8 v1 2, c8)
                              else none)
                          else none
                        else none
                      else none)
                  else none)
            else none
          else none)
    else none
  else none := (zrun_s zt100).trans (zf_X11_page _ _ this x1 c)
set_option maxRecDepth 100000 in
theorem zf_X11_sense (call : zCall) (K : zK) (this : Int) (c : zC) : zseg zc_X11_sense zk_X11_sense call K 1000 0 [(2, this)] [] c =
  if c this (-1) = 11 then
    if c (c this 1) (-1) = 9 then
      if (c (c this 1) 3) < 8 then
        if c this (-1) = 11 then
          if c (c this 0) (-1) = 10 then
            zbnd (call 79 [c this 0] c) (fun v1 c2 =>
              if v1 = 0 then
                if c2 this (-1) = 11 then
                  if c2 (c2 this 0) (-1) = 10 then
                    some (zsub (-100) (c2 (c2 this 0) 3), c2)
                  else none
                else none
              else
                if c2 this (-1) = 11 then
                  zbnd (call 126 [this] c2) (fun _ c4 =>
                    if c4 this (-1) = 11 then
                      if c4 this (-1) = 11 then
                        if c4 (c4 this 0) (-1) = 10 then
                          if c4 (c4 this 1) (-1) = 9 then
                            zbnd (call 71 [c4 this 1, c4 (c4 this 0) 6] c4) (fun _ c6 =>
                              if c6 this (-1) = 11 then
                                if c6 (c6 this 1) (-1) = 9 then
                                  some (zsub (c6 (c6 this 1) 3) 1, c6)
                                else none
                              else none)
                          else none
                        else none
                      else none
                    else none)
                else none)
          else none
        else none
      else
        some ((-4), c)
    else none
  else none := by rfl
theorem ze_X11_sense (d : Nat) (this : Int) (c : zC) : zrun zTab (d + 1) 101 [this] c =
  if c this (-1) = 11 then
    if c (c this 1) (-1) = 9 then
      if (c (c this 1) 3) < 8 then
        if c this (-1) = 11 then
          if c (c this 0) (-1) = 10 then
            zbnd (zrun zTab d 79 [c this 0] c) (fun v1 c2 =>
              if v1 = 0 then
                if c2 this (-1) = 11 then
                  if c2 (c2 this 0) (-1) = 10 then
                    some (zsub (-100) (c2 (c2 this 0) 3), c2)
                  else none
                else none
              else
                if c2 this (-1) = 11 then
                  zbnd (zrun zTab d 126 [this] c2) (fun _ c4 =>
                    if c4 this (-1) = 11 then
                      if c4 this (-1) = 11 then
                        if c4 (c4 this 0) (-1) = 10 then
                          if c4 (c4 this 1) (-1) = 9 then
                            zbnd (zrun zTab d 71 [c4 this 1, c4 (c4 this 0) 6] c4) (fun _ c6 =>
                              if c6 this (-1) = 11 then
                                if c6 (c6 this 1) (-1) = 9 then
                                  some (zsub (c6 (c6 this 1) 3) 1, c6)
                                else none
                              else none)
                          else none
                        else none
                      else none
                    else none)
                else none)
          else none
        else none
      else
        some ((-4), c)
    else none
  else none := (zrun_s zt101).trans (zf_X11_sense _ _ this c)
set_option maxRecDepth 100000 in
theorem zf_X11_rule (call : zCall) (K : zK) (this : Int) (c : zC) : zseg zc_X11_rule zk_X11_rule call K 1000 0 [(2, this)] [] c =
  if c this (-1) = 11 then
    if c (c this 1) (-1) = 9 then
      if (c (c this 1) 4) < 6 then
        if c this (-1) = 11 then
          if c (c this 0) (-1) = 10 then
            zbnd (call 80 [c this 0] c) (fun v1 c2 =>
              if v1 = 0 then
                if c2 this (-1) = 11 then
                  if c2 (c2 this 0) (-1) = 10 then
                    some (zsub (-100) (c2 (c2 this 0) 3), c2)
                  else none
                else none
              else
                if c2 this (-1) = 11 then
                  zbnd (call 126 [this] c2) (fun _ c4 =>
                    if c4 this (-1) = 11 then
                      if c4 this (-1) = 11 then
                        if c4 (c4 this 0) (-1) = 10 then
                          if c4 (c4 this 1) (-1) = 9 then
                            zbnd (call 72 [c4 this 1, c4 (c4 this 0) 7] c4) (fun _ c6 =>
                              if c6 this (-1) = 11 then
                                if c6 (c6 this 1) (-1) = 9 then
                                  some (zsub (c6 (c6 this 1) 4) 1, c6)
                                else none
                              else none)
                          else none
                        else none
                      else none
                    else none)
                else none)
          else none
        else none
      else
        some ((-4), c)
    else none
  else none := by rfl
theorem ze_X11_rule (d : Nat) (this : Int) (c : zC) : zrun zTab (d + 1) 102 [this] c =
  if c this (-1) = 11 then
    if c (c this 1) (-1) = 9 then
      if (c (c this 1) 4) < 6 then
        if c this (-1) = 11 then
          if c (c this 0) (-1) = 10 then
            zbnd (zrun zTab d 80 [c this 0] c) (fun v1 c2 =>
              if v1 = 0 then
                if c2 this (-1) = 11 then
                  if c2 (c2 this 0) (-1) = 10 then
                    some (zsub (-100) (c2 (c2 this 0) 3), c2)
                  else none
                else none
              else
                if c2 this (-1) = 11 then
                  zbnd (zrun zTab d 126 [this] c2) (fun _ c4 =>
                    if c4 this (-1) = 11 then
                      if c4 this (-1) = 11 then
                        if c4 (c4 this 0) (-1) = 10 then
                          if c4 (c4 this 1) (-1) = 9 then
                            zbnd (zrun zTab d 72 [c4 this 1, c4 (c4 this 0) 7] c4) (fun _ c6 =>
                              if c6 this (-1) = 11 then
                                if c6 (c6 this 1) (-1) = 9 then
                                  some (zsub (c6 (c6 this 1) 4) 1, c6)
                                else none
                              else none)
                          else none
                        else none
                      else none
                    else none)
                else none)
          else none
        else none
      else
        some ((-4), c)
    else none
  else none := (zrun_s zt102).trans (zf_X11_rule _ _ this c)
set_option maxRecDepth 100000 in
theorem zf_X11_removeSense (call : zCall) (K : zK) (this x1 : Int) (c : zC) : zseg zc_X11_removeSense zk_X11_removeSense call K 1000 0 [(2, this), (0, x1)] [] c =
  if c this (-1) = 11 then
    if c (c this 1) (-1) = 9 then
      zbnd (call 68 [c this 1, x1] c) (fun v1 c2 =>
        if v1 = 0 then
          some ((-1), c2)
        else
          if c2 this (-1) = 11 then
            zbnd (call 126 [this] c2) (fun _ c4 =>
              if c4 this (-1) = 11 then
                if c4 (c4 this 1) (-1) = 9 then
                  zbnd (call 73 [c4 this 1, x1] c4) (fun _ c6 =>
                    if c6 this (-1) = 11 then
                      if c6 (c6 this 1) (-1) = 9 then
                        some (c6 (c6 this 1) 3, c6)
                      else none
                    else none)
                else none
              else none)
          else none)
    else none
  else none := by rfl
theorem ze_X11_removeSense (d : Nat) (this x1 : Int) (c : zC) : zrun zTab (d + 1) 103 [this, x1] c =
  if c this (-1) = 11 then
    if c (c this 1) (-1) = 9 then
      zbnd (zrun zTab d 68 [c this 1, x1] c) (fun v1 c2 =>
        if v1 = 0 then
          some ((-1), c2)
        else
          if c2 this (-1) = 11 then
            zbnd (zrun zTab d 126 [this] c2) (fun _ c4 =>
              if c4 this (-1) = 11 then
                if c4 (c4 this 1) (-1) = 9 then
                  zbnd (zrun zTab d 73 [c4 this 1, x1] c4) (fun _ c6 =>
                    if c6 this (-1) = 11 then
                      if c6 (c6 this 1) (-1) = 9 then
                        some (c6 (c6 this 1) 3, c6)
                      else none
                    else none)
                else none
              else none)
          else none)
    else none
  else none := (zrun_s zt103).trans (zf_X11_removeSense _ _ this x1 c)
set_option maxRecDepth 100000 in
theorem zf_X11_removeRule (call : zCall) (K : zK) (this x1 : Int) (c : zC) : zseg zc_X11_removeRule zk_X11_removeRule call K 1000 0 [(2, this), (0, x1)] [] c =
  if c this (-1) = 11 then
    if c (c this 1) (-1) = 9 then
      zbnd (call 69 [c this 1, x1] c) (fun v1 c2 =>
        if v1 = 0 then
          some ((-1), c2)
        else
          if c2 this (-1) = 11 then
            zbnd (call 126 [this] c2) (fun _ c4 =>
              if c4 this (-1) = 11 then
                if c4 (c4 this 1) (-1) = 9 then
                  zbnd (call 74 [c4 this 1, x1] c4) (fun _ c6 =>
                    if c6 this (-1) = 11 then
                      if c6 (c6 this 1) (-1) = 9 then
                        some (c6 (c6 this 1) 4, c6)
                      else none
                    else none)
                else none
              else none)
          else none)
    else none
  else none := by rfl
theorem ze_X11_removeRule (d : Nat) (this x1 : Int) (c : zC) : zrun zTab (d + 1) 104 [this, x1] c =
  if c this (-1) = 11 then
    if c (c this 1) (-1) = 9 then
      zbnd (zrun zTab d 69 [c this 1, x1] c) (fun v1 c2 =>
        if v1 = 0 then
          some ((-1), c2)
        else
          if c2 this (-1) = 11 then
            zbnd (zrun zTab d 126 [this] c2) (fun _ c4 =>
              if c4 this (-1) = 11 then
                if c4 (c4 this 1) (-1) = 9 then
                  zbnd (zrun zTab d 74 [c4 this 1, x1] c4) (fun _ c6 =>
                    if c6 this (-1) = 11 then
                      if c6 (c6 this 1) (-1) = 9 then
                        some (c6 (c6 this 1) 4, c6)
                      else none
                    else none)
                else none
              else none)
          else none)
    else none
  else none := (zrun_s zt104).trans (zf_X11_removeRule _ _ this x1 c)
set_option maxRecDepth 100000 in
theorem zf_X11_parameter (call : zCall) (K : zK) (this x1 x2 : Int) (c : zC) : zseg zc_X11_parameter zk_X11_parameter call K 1000 0 [(2, this), (0, x1), (0, x2), (3, 0)] [] c =
  if x1 < 0 then
    some ((-1), c)
  else
    if x1 ≤ 1 then
      if x2 < 0 then
        some ((-2), c)
      else
        if x1 = 0 then
          K 27 [(2, this), (0, x1), (0, x2), (3, 0)] [(0, 8), (0, x2)] c
        else
          K 27 [(2, this), (0, x1), (0, x2), (3, 0)] [(0, 9), (0, x2)] c
    else
      some ((-1), c) := by rfl
theorem ze_X11_parameter (d : Nat) (this x1 x2 : Int) (c : zC) : zrun zTab (d + 1) 105 [this, x1, x2] c =
  if x1 < 0 then
    some ((-1), c)
  else
    if x1 ≤ 1 then
      if x2 < 0 then
        some ((-2), c)
      else
        if x1 = 0 then
          zex zc_X11_parameter zk_X11_parameter (zrun zTab d) 19999 27 [(2, this), (0, x1), (0, x2), (3, 0)] [(0, 8), (0, x2)] c
        else
          zex zc_X11_parameter zk_X11_parameter (zrun zTab d) 19999 27 [(2, this), (0, x1), (0, x2), (3, 0)] [(0, 9), (0, x2)] c
    else
      some ((-1), c) := (zrun_s zt105).trans (zf_X11_parameter _ _ this x1 x2 c)
set_option maxRecDepth 100000 in
theorem zf_X11_parameter_27 (call : zCall) (K : zK) (this x1 x2 s0 s1 : Int) (c : zC) : zseg zc_X11_parameter zk_X11_parameter call K 1000 27 [(2, this), (0, x1), (0, x2), (3, 0)] [(0, s1), (0, s0)] c =
  if s0 ≤ s1 then
    if x1 = 0 then
      if c this (-1) = 11 then
        if c (c this 1) (-1) = 9 then
          if c this (-1) = 11 then
            zbnd (call 126 [this] c) (fun _ c2 =>
              if x1 = 0 then
                if c2 this (-1) = 11 then
                  if c2 (c2 this 1) (-1) = 9 then
                    some (c (c this 1) 5, zup c2 (c2 this 1) 5 x2)
                  else none
                else none
              else
                if c2 this (-1) = 11 then
                  if c2 (c2 this 1) (-1) = 9 then
                    some (c (c this 1) 5, zup c2 (c2 this 1) 6 x2)
                  else none
                else none)
          else none
        else none
      else none
    else
      if c this (-1) = 11 then
        if c (c this 1) (-1) = 9 then
          if c this (-1) = 11 then
            zbnd (call 126 [this] c) (fun _ c4 =>
              if x1 = 0 then
                if c4 this (-1) = 11 then
                  if c4 (c4 this 1) (-1) = 9 then
                    some (c (c this 1) 6, zup c4 (c4 this 1) 5 x2)
                  else none
                else none
              else
                if c4 this (-1) = 11 then
                  if c4 (c4 this 1) (-1) = 9 then
                    some (c (c this 1) 6, zup c4 (c4 this 1) 6 x2)
                  else none
                else none)
          else none
        else none
      else none
  else
    some ((-2), c) := by rfl
theorem ze_X11_parameter_27 (d F : Nat) (this x1 x2 s0 s1 : Int) (c : zC) : zex zc_X11_parameter zk_X11_parameter (zrun zTab d) (F + 1) 27 [(2, this), (0, x1), (0, x2), (3, 0)] [(0, s1), (0, s0)] c =
  if s0 ≤ s1 then
    if x1 = 0 then
      if c this (-1) = 11 then
        if c (c this 1) (-1) = 9 then
          if c this (-1) = 11 then
            zbnd (zrun zTab d 126 [this] c) (fun _ c2 =>
              if x1 = 0 then
                if c2 this (-1) = 11 then
                  if c2 (c2 this 1) (-1) = 9 then
                    some (c (c this 1) 5, zup c2 (c2 this 1) 5 x2)
                  else none
                else none
              else
                if c2 this (-1) = 11 then
                  if c2 (c2 this 1) (-1) = 9 then
                    some (c (c this 1) 5, zup c2 (c2 this 1) 6 x2)
                  else none
                else none)
          else none
        else none
      else none
    else
      if c this (-1) = 11 then
        if c (c this 1) (-1) = 9 then
          if c this (-1) = 11 then
            zbnd (zrun zTab d 126 [this] c) (fun _ c4 =>
              if x1 = 0 then
                if c4 this (-1) = 11 then
                  if c4 (c4 this 1) (-1) = 9 then
                    some (c (c this 1) 6, zup c4 (c4 this 1) 5 x2)
                  else none
                else none
              else
                if c4 this (-1) = 11 then
                  if c4 (c4 this 1) (-1) = 9 then
                    some (c (c this 1) 6, zup c4 (c4 this 1) 6 x2)
                  else none
                else none)
          else none
        else none
      else none
  else
    some ((-2), c) := zf_X11_parameter_27 _ _ this x1 x2 s0 s1 c
set_option maxRecDepth 100000 in
theorem zf_X11_budget (call : zCall) (K : zK) (this x1 x2 : Int) (c : zC) : zseg zc_X11_budget zk_X11_budget call K 1000 0 [(2, this), (0, x1), (0, x2), (3, 0), (3, 0)] [] c =
  if c this (-1) = 11 then
    if c (c this 1) (-1) = 9 then
      zbnd (call 67 [c this 1, x1] c) (fun v1 c2 =>
        if v1 = 0 then
          some ((-1), c2)
        else
          if x2 < 0 then
            some ((-2), c2)
          else
            if x2 ≤ 20 then
              if c2 v1 (-1) = 5 then
                if c2 this (-1) = 11 then
                  zbnd (call 126 [this] c2) (fun _ c4 =>
                    if c4 v1 (-1) = 5 then
                      some (c2 v1 3, zup c4 v1 3 x2)
                    else none)
                else none
              else none
            else
              some ((-2), c2))
    else none
  else none := by rfl
theorem ze_X11_budget (d : Nat) (this x1 x2 : Int) (c : zC) : zrun zTab (d + 1) 106 [this, x1, x2] c =
  if c this (-1) = 11 then
    if c (c this 1) (-1) = 9 then
      zbnd (zrun zTab d 67 [c this 1, x1] c) (fun v1 c2 =>
        if v1 = 0 then
          some ((-1), c2)
        else
          if x2 < 0 then
            some ((-2), c2)
          else
            if x2 ≤ 20 then
              if c2 v1 (-1) = 5 then
                if c2 this (-1) = 11 then
                  zbnd (zrun zTab d 126 [this] c2) (fun _ c4 =>
                    if c4 v1 (-1) = 5 then
                      some (c2 v1 3, zup c4 v1 3 x2)
                    else none)
                else none
              else none
            else
              some ((-2), c2))
    else none
  else none := (zrun_s zt106).trans (zf_X11_budget _ _ this x1 x2 c)
set_option maxRecDepth 100000 in
theorem zf_X11_insert (call : zCall) (K : zK) (this x1 x2 : Int) (c : zC) : zseg zc_X11_insert zk_X11_insert call K 1000 0 [(2, this), (0, x1), (0, x2), (3, 0)] [] c =
  if c this (-1) = 11 then
    if c (c this 1) (-1) = 9 then
      zbnd (call 67 [c this 1, x1] c) (fun v1 c2 =>
        if v1 = 0 then
          some ((-1), c2)
        else
          if x2 < 0 then
            some ((-1), c2)
          else
            if c2 v1 (-1) = 5 then
              if x2 ≤ (c2 v1 2) then
                if c2 v1 (-1) = 5 then
                  if (c2 v1 2) < 20 then
                    if c2 this (-1) = 11 then
                      if c2 (c2 this 0) (-1) = 10 then
                        zbnd (call 81 [c2 this 0] c2) (fun v3 c4 =>
                          if v3 = 0 then
                            if c4 this (-1) = 11 then
                              if c4 (c4 this 0) (-1) = 10 then
                                some (zsub (-100) (c4 (c4 this 0) 3), c4)
                              else none
                            else none
                          else
                            if c4 this (-1) = 11 then
                              zbnd (call 127 [this, x1] c4) (fun _ c6 =>
                                if c6 this (-1) = 11 then
                                  if c6 (c6 this 0) (-1) = 10 then
                                    if c6 v1 (-1) = 5 then
                                      zbnd (call 46 [v1, x2, c6 (c6 this 0) 8] c6) (fun _ c8 =>
                                        if c8 this (-1) = 11 then
                                          zbnd (call 128 [this, x1, x2, 0, 1] c8) (fun _ c10 =>
                                            if c10 v1 (-1) = 5 then
                                              some (c10 v1 2, c10)
                                            else none)
                                        else none)
                                    else none
                                  else none
                                else none)
                            else none)
                      else none
                    else none
                  else
                    some ((-4), c2)
                else none
              else
                some ((-1), c2)
            else none)
    else none
  else none := by rfl
theorem ze_X11_insert (d : Nat) (this x1 x2 : Int) (c : zC) : zrun zTab (d + 1) 107 [this, x1, x2] c =
  if c this (-1) = 11 then
    if c (c this 1) (-1) = 9 then
      zbnd (zrun zTab d 67 [c this 1, x1] c) (fun v1 c2 =>
        if v1 = 0 then
          some ((-1), c2)
        else
          if x2 < 0 then
            some ((-1), c2)
          else
            if c2 v1 (-1) = 5 then
              if x2 ≤ (c2 v1 2) then
                if c2 v1 (-1) = 5 then
                  if (c2 v1 2) < 20 then
                    if c2 this (-1) = 11 then
                      if c2 (c2 this 0) (-1) = 10 then
                        zbnd (zrun zTab d 81 [c2 this 0] c2) (fun v3 c4 =>
                          if v3 = 0 then
                            if c4 this (-1) = 11 then
                              if c4 (c4 this 0) (-1) = 10 then
                                some (zsub (-100) (c4 (c4 this 0) 3), c4)
                              else none
                            else none
                          else
                            if c4 this (-1) = 11 then
                              zbnd (zrun zTab d 127 [this, x1] c4) (fun _ c6 =>
                                if c6 this (-1) = 11 then
                                  if c6 (c6 this 0) (-1) = 10 then
                                    if c6 v1 (-1) = 5 then
                                      zbnd (zrun zTab d 46 [v1, x2, c6 (c6 this 0) 8] c6) (fun _ c8 =>
                                        if c8 this (-1) = 11 then
                                          zbnd (zrun zTab d 128 [this, x1, x2, 0, 1] c8) (fun _ c10 =>
                                            if c10 v1 (-1) = 5 then
                                              some (c10 v1 2, c10)
                                            else none)
                                        else none)
                                    else none
                                  else none
                                else none)
                            else none)
                      else none
                    else none
                  else
                    some ((-4), c2)
                else none
              else
                some ((-1), c2)
            else none)
    else none
  else none := (zrun_s zt107).trans (zf_X11_insert _ _ this x1 x2 c)
set_option maxRecDepth 100000 in
theorem zf_X11_replace (call : zCall) (K : zK) (this x1 x2 : Int) (c : zC) : zseg zc_X11_replace zk_X11_replace call K 1000 0 [(2, this), (0, x1), (0, x2), (3, 0)] [] c =
  if c this (-1) = 11 then
    if c (c this 1) (-1) = 9 then
      zbnd (call 67 [c this 1, x1] c) (fun v1 c2 =>
        if v1 = 0 then
          some ((-1), c2)
        else
          if x2 < 0 then
            some ((-1), c2)
          else
            if c2 v1 (-1) = 5 then
              if x2 < (c2 v1 2) then
                if c2 this (-1) = 11 then
                  if c2 (c2 this 0) (-1) = 10 then
                    zbnd (call 81 [c2 this 0] c2) (fun v3 c4 =>
                      if v3 = 0 then
                        if c4 this (-1) = 11 then
                          if c4 (c4 this 0) (-1) = 10 then
                            some (zsub (-100) (c4 (c4 this 0) 3), c4)
                          else none
                        else none
                      else
                        if c4 this (-1) = 11 then
                          zbnd (call 127 [this, x1] c4) (fun _ c6 =>
                            if c6 this (-1) = 11 then
                              if c6 (c6 this 0) (-1) = 10 then
                                if c6 v1 (-1) = 5 then
                                  zbnd (call 47 [v1, x2, c6 (c6 this 0) 8] c6) (fun _ c8 =>
                                    if c8 this (-1) = 11 then
                                      zbnd (call 128 [this, x1, x2, 1, 1] c8) (fun _ c10 =>
                                        if c10 v1 (-1) = 5 then
                                          some (c10 v1 2, c10)
                                        else none)
                                    else none)
                                else none
                              else none
                            else none)
                        else none)
                  else none
                else none
              else
                some ((-1), c2)
            else none)
    else none
  else none := by rfl
theorem ze_X11_replace (d : Nat) (this x1 x2 : Int) (c : zC) : zrun zTab (d + 1) 108 [this, x1, x2] c =
  if c this (-1) = 11 then
    if c (c this 1) (-1) = 9 then
      zbnd (zrun zTab d 67 [c this 1, x1] c) (fun v1 c2 =>
        if v1 = 0 then
          some ((-1), c2)
        else
          if x2 < 0 then
            some ((-1), c2)
          else
            if c2 v1 (-1) = 5 then
              if x2 < (c2 v1 2) then
                if c2 this (-1) = 11 then
                  if c2 (c2 this 0) (-1) = 10 then
                    zbnd (zrun zTab d 81 [c2 this 0] c2) (fun v3 c4 =>
                      if v3 = 0 then
                        if c4 this (-1) = 11 then
                          if c4 (c4 this 0) (-1) = 10 then
                            some (zsub (-100) (c4 (c4 this 0) 3), c4)
                          else none
                        else none
                      else
                        if c4 this (-1) = 11 then
                          zbnd (zrun zTab d 127 [this, x1] c4) (fun _ c6 =>
                            if c6 this (-1) = 11 then
                              if c6 (c6 this 0) (-1) = 10 then
                                if c6 v1 (-1) = 5 then
                                  zbnd (zrun zTab d 47 [v1, x2, c6 (c6 this 0) 8] c6) (fun _ c8 =>
                                    if c8 this (-1) = 11 then
                                      zbnd (zrun zTab d 128 [this, x1, x2, 1, 1] c8) (fun _ c10 =>
                                        if c10 v1 (-1) = 5 then
                                          some (c10 v1 2, c10)
                                        else none)
                                    else none)
                                else none
                              else none
                            else none)
                        else none)
                  else none
                else none
              else
                some ((-1), c2)
            else none)
    else none
  else none := (zrun_s zt108).trans (zf_X11_replace _ _ this x1 x2 c)
set_option maxRecDepth 100000 in
theorem zf_X11_cut (call : zCall) (K : zK) (this x1 x2 : Int) (c : zC) : zseg zc_X11_cut zk_X11_cut call K 1000 0 [(2, this), (0, x1), (0, x2), (3, 0)] [] c =
  if c this (-1) = 11 then
    if c (c this 1) (-1) = 9 then
      zbnd (call 67 [c this 1, x1] c) (fun v1 c2 =>
        if v1 = 0 then
          some ((-1), c2)
        else
          if x2 < 0 then
            some ((-1), c2)
          else
            if c2 v1 (-1) = 5 then
              if x2 < (c2 v1 2) then
                if c2 this (-1) = 11 then
                  zbnd (call 127 [this, x1] c2) (fun _ c4 =>
                    if c4 v1 (-1) = 5 then
                      zbnd (call 48 [v1, x2] c4) (fun _ c6 =>
                        if c6 this (-1) = 11 then
                          zbnd (call 128 [this, x1, x2, 1, 0] c6) (fun _ c8 =>
                            if c8 v1 (-1) = 5 then
                              some (c8 v1 2, c8)
                            else none)
                        else none)
                    else none)
                else none
              else
                some ((-1), c2)
            else none)
    else none
  else none := by rfl
theorem ze_X11_cut (d : Nat) (this x1 x2 : Int) (c : zC) : zrun zTab (d + 1) 109 [this, x1, x2] c =
  if c this (-1) = 11 then
    if c (c this 1) (-1) = 9 then
      zbnd (zrun zTab d 67 [c this 1, x1] c) (fun v1 c2 =>
        if v1 = 0 then
          some ((-1), c2)
        else
          if x2 < 0 then
            some ((-1), c2)
          else
            if c2 v1 (-1) = 5 then
              if x2 < (c2 v1 2) then
                if c2 this (-1) = 11 then
                  zbnd (zrun zTab d 127 [this, x1] c2) (fun _ c4 =>
                    if c4 v1 (-1) = 5 then
                      zbnd (zrun zTab d 48 [v1, x2] c4) (fun _ c6 =>
                        if c6 this (-1) = 11 then
                          zbnd (zrun zTab d 128 [this, x1, x2, 1, 0] c6) (fun _ c8 =>
                            if c8 v1 (-1) = 5 then
                              some (c8 v1 2, c8)
                            else none)
                        else none)
                    else none)
                else none
              else
                some ((-1), c2)
            else none)
    else none
  else none := (zrun_s zt109).trans (zf_X11_cut _ _ this x1 x2 c)
set_option maxRecDepth 100000 in
theorem zf_X11_edited (call : zCall) (K : zK) (this x1 : Int) (c : zC) : zseg zc_X11_edited zk_X11_edited call K 1000 0 [(2, this), (0, x1)] [] c =
  if x1 = 0 then
    if c this (-1) = 11 then
      if c (c this 6) (-1) = 2 then
        some (c (c this 6) 2, c)
      else none
    else none
  else
    if x1 = 1 then
      if c this (-1) = 11 then
        if c (c this 6) (-1) = 2 then
          some (c (c this 6) 3, c)
        else none
      else none
    else
      if x1 = 2 then
        if c this (-1) = 11 then
          if c (c this 6) (-1) = 2 then
            some (c (c this 6) 4, c)
          else none
        else none
      else
        some ((-1), c) := by rfl
theorem ze_X11_edited (d : Nat) (this x1 : Int) (c : zC) : zrun zTab (d + 1) 110 [this, x1] c =
  if x1 = 0 then
    if c this (-1) = 11 then
      if c (c this 6) (-1) = 2 then
        some (c (c this 6) 2, c)
      else none
    else none
  else
    if x1 = 1 then
      if c this (-1) = 11 then
        if c (c this 6) (-1) = 2 then
          some (c (c this 6) 3, c)
        else none
      else none
    else
      if x1 = 2 then
        if c this (-1) = 11 then
          if c (c this 6) (-1) = 2 then
            some (c (c this 6) 4, c)
          else none
        else none
      else
        some ((-1), c) := (zrun_s zt110).trans (zf_X11_edited _ _ this x1 c)
set_option maxRecDepth 100000 in
theorem zf_X11_cause (call : zCall) (K : zK) (this : Int) (c : zC) : zseg zc_X11_cause zk_X11_cause call K 1000 0 [(2, this)] [] c =
  if c this (-1) = 11 then
    if c (c this 0) (-1) = 10 then
      some (c (c this 0) 4, c)
    else none
  else none := by rfl
theorem ze_X11_cause (d : Nat) (this : Int) (c : zC) : zrun zTab (d + 1) 111 [this] c =
  if c this (-1) = 11 then
    if c (c this 0) (-1) = 10 then
      some (c (c this 0) 4, c)
    else none
  else none := (zrun_s zt111).trans (zf_X11_cause _ _ this c)
set_option maxRecDepth 100000 in
theorem zf_X11_word (call : zCall) (K : zK) (this x1 x2 x3 : Int) (c : zC) : zseg zc_X11_word zk_X11_word call K 1000 0 [(2, this), (0, x1), (0, x2), (0, x3), (3, 0)] [] c =
  if c this (-1) = 11 then
    if c (c this 1) (-1) = 9 then
      zbnd (call 67 [c this 1, x1] c) (fun v1 c2 =>
        if v1 = 0 then
          some ((-1), c2)
        else
          if x2 < 0 then
            some ((-1), c2)
          else
            if c2 v1 (-1) = 5 then
              if x2 < (c2 v1 2) then
                if x3 < (-1) then
                  some ((-1), c2)
                else
                  if c2 v1 (-1) = 5 then
                    zbnd (call 42 [v1, x2] c2) (fun v3 c4 =>
                      zbnd (call 125 [v3, x3] c4) (fun v5 c6 =>
                        some (v5, c6)))
                  else none
              else
                some ((-1), c2)
            else none)
    else none
  else none := by rfl
theorem ze_X11_word (d : Nat) (this x1 x2 x3 : Int) (c : zC) : zrun zTab (d + 1) 112 [this, x1, x2, x3] c =
  if c this (-1) = 11 then
    if c (c this 1) (-1) = 9 then
      zbnd (zrun zTab d 67 [c this 1, x1] c) (fun v1 c2 =>
        if v1 = 0 then
          some ((-1), c2)
        else
          if x2 < 0 then
            some ((-1), c2)
          else
            if c2 v1 (-1) = 5 then
              if x2 < (c2 v1 2) then
                if x3 < (-1) then
                  some ((-1), c2)
                else
                  if c2 v1 (-1) = 5 then
                    zbnd (zrun zTab d 42 [v1, x2] c2) (fun v3 c4 =>
                      zbnd (zrun zTab d 125 [v3, x3] c4) (fun v5 c6 =>
                        some (v5, c6)))
                  else none
              else
                some ((-1), c2)
            else none)
    else none
  else none := (zrun_s zt112).trans (zf_X11_word _ _ this x1 x2 x3 c)
set_option maxRecDepth 100000 in
theorem zf_X11_told (call : zCall) (K : zK) (this x1 x2 x3 : Int) (c : zC) : zseg zc_X11_told zk_X11_told call K 1000 0 [(2, this), (0, x1), (0, x2), (0, x3), (3, 0)] [] c =
  if c this (-1) = 11 then
    zbnd (call 130 [this, x1] c) (fun v1 c2 =>
      if v1 = 0 then
        some ((-1), c2)
      else
        if x2 < 0 then
          some ((-1), c2)
        else
          if c2 v1 (-1) = 4 then
            if x2 < (c2 v1 10) then
              if x3 = 0 then
                if c2 v1 (-1) = 4 then
                  zbnd (call 24 [v1, x2] c2) (fun v3 c4 =>
                    some (v3, c4))
                else none
              else
                if x3 = 1 then
                  if c2 v1 (-1) = 4 then
                    zbnd (call 28 [v1, x2] c2) (fun v5 c6 =>
                      some (v5, c6))
                  else none
                else
                  if x3 = 2 then
                    if c2 v1 (-1) = 4 then
                      zbnd (call 29 [v1, x2] c2) (fun v7 c8 =>
                        some (v7, c8))
                    else none
                  else
                    if x3 = 3 then
                      if c2 v1 (-1) = 4 then
                        zbnd (call 26 [v1, x2] c2) (fun v9 c10 =>
                          some (v9, c10))
                      else none
                    else
                      if x3 = 4 then
                        if c2 v1 (-1) = 4 then
                          zbnd (call 27 [v1, x2] c2) (fun v11 c12 =>
                            some (v11, c12))
                        else none
                      else
                        if x3 = 5 then
                          if c2 v1 (-1) = 4 then
                            zbnd (call 25 [v1, x2] c2) (fun v13 c14 =>
                              some (v13, c14))
                          else none
                        else
                          if x3 = 6 then
                            if c2 v1 (-1) = 4 then
                              zbnd (call 30 [v1, x2] c2) (fun v15 c16 =>
                                some (v15, c16))
                            else none
                          else
                            if x3 = 7 then
                              if c2 v1 (-1) = 4 then
                                zbnd (call 23 [v1, x2] c2) (fun v17 c18 =>
                                  some (v17, c18))
                              else none
                            else
                              some ((-1), c2)
            else
              some ((-1), c2)
          else none)
  else none := by rfl
theorem ze_X11_told (d : Nat) (this x1 x2 x3 : Int) (c : zC) : zrun zTab (d + 1) 113 [this, x1, x2, x3] c =
  if c this (-1) = 11 then
    zbnd (zrun zTab d 130 [this, x1] c) (fun v1 c2 =>
      if v1 = 0 then
        some ((-1), c2)
      else
        if x2 < 0 then
          some ((-1), c2)
        else
          if c2 v1 (-1) = 4 then
            if x2 < (c2 v1 10) then
              if x3 = 0 then
                if c2 v1 (-1) = 4 then
                  zbnd (zrun zTab d 24 [v1, x2] c2) (fun v3 c4 =>
                    some (v3, c4))
                else none
              else
                if x3 = 1 then
                  if c2 v1 (-1) = 4 then
                    zbnd (zrun zTab d 28 [v1, x2] c2) (fun v5 c6 =>
                      some (v5, c6))
                  else none
                else
                  if x3 = 2 then
                    if c2 v1 (-1) = 4 then
                      zbnd (zrun zTab d 29 [v1, x2] c2) (fun v7 c8 =>
                        some (v7, c8))
                    else none
                  else
                    if x3 = 3 then
                      if c2 v1 (-1) = 4 then
                        zbnd (zrun zTab d 26 [v1, x2] c2) (fun v9 c10 =>
                          some (v9, c10))
                      else none
                    else
                      if x3 = 4 then
                        if c2 v1 (-1) = 4 then
                          zbnd (zrun zTab d 27 [v1, x2] c2) (fun v11 c12 =>
                            some (v11, c12))
                        else none
                      else
                        if x3 = 5 then
                          if c2 v1 (-1) = 4 then
                            zbnd (zrun zTab d 25 [v1, x2] c2) (fun v13 c14 =>
                              some (v13, c14))
                          else none
                        else
                          if x3 = 6 then
                            if c2 v1 (-1) = 4 then
                              zbnd (zrun zTab d 30 [v1, x2] c2) (fun v15 c16 =>
                                some (v15, c16))
                            else none
                          else
                            if x3 = 7 then
                              if c2 v1 (-1) = 4 then
                                zbnd (zrun zTab d 23 [v1, x2] c2) (fun v17 c18 =>
                                  some (v17, c18))
                              else none
                            else
                              some ((-1), c2)
            else
              some ((-1), c2)
          else none)
  else none := (zrun_s zt113).trans (zf_X11_told _ _ this x1 x2 x3 c)
set_option maxRecDepth 100000 in
theorem zf_X11_base (call : zCall) (K : zK) (this x1 x2 x3 x4 : Int) (c : zC) : zseg zc_X11_base zk_X11_base call K 1000 0 [(2, this), (0, x1), (0, x2), (0, x3), (0, x4), (3, 0), (3, 0)] [] c =
  if c this (-1) = 11 then
    zbnd (call 130 [this, x1] c) (fun v1 c2 =>
      if v1 = 0 then
        some ((-1), c2)
      else
        if x2 < 0 then
          some ((-1), c2)
        else
          if c2 v1 (-1) = 4 then
            if x2 < (c2 v1 10) then
              if x3 < 0 then
                some ((-1), c2)
              else
                if x4 < (-1) then
                  some ((-1), c2)
                else
                  if c2 v1 (-1) = 4 then
                    zbnd (call 22 [v1, x2] c2) (fun v3 c4 =>
                      if v3 = 0 then
                        some ((-5), c4)
                      else
                        if c4 v3 (-1) = 1 then
                          if x3 < (c4 v3 2) then
                            if c4 v3 (-1) = 1 then
                              zbnd (call 1 [v3, x3] c4) (fun v5 c6 =>
                                zbnd (call 125 [v5, x4] c6) (fun v7 c8 =>
                                  some (v7, c8)))
                            else none
                          else
                            some ((-5), c4)
                        else none)
                  else none
            else
              some ((-1), c2)
          else none)
  else none := by rfl
theorem ze_X11_base (d : Nat) (this x1 x2 x3 x4 : Int) (c : zC) : zrun zTab (d + 1) 114 [this, x1, x2, x3, x4] c =
  if c this (-1) = 11 then
    zbnd (zrun zTab d 130 [this, x1] c) (fun v1 c2 =>
      if v1 = 0 then
        some ((-1), c2)
      else
        if x2 < 0 then
          some ((-1), c2)
        else
          if c2 v1 (-1) = 4 then
            if x2 < (c2 v1 10) then
              if x3 < 0 then
                some ((-1), c2)
              else
                if x4 < (-1) then
                  some ((-1), c2)
                else
                  if c2 v1 (-1) = 4 then
                    zbnd (zrun zTab d 22 [v1, x2] c2) (fun v3 c4 =>
                      if v3 = 0 then
                        some ((-5), c4)
                      else
                        if c4 v3 (-1) = 1 then
                          if x3 < (c4 v3 2) then
                            if c4 v3 (-1) = 1 then
                              zbnd (zrun zTab d 1 [v3, x3] c4) (fun v5 c6 =>
                                zbnd (zrun zTab d 125 [v5, x4] c6) (fun v7 c8 =>
                                  some (v7, c8)))
                            else none
                          else
                            some ((-5), c4)
                        else none)
                  else none
            else
              some ((-1), c2)
          else none)
  else none := (zrun_s zt114).trans (zf_X11_base _ _ this x1 x2 x3 x4 c)
