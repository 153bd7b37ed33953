set_option maxRecDepth 100000 in
theorem zf_X12_isBase_26 (call : zCall) (K : zK) (this x1 x2 x3 x4 x5 x6 x7 : Int) (c : zC) : zseg zc_X12_isBase zk_X12_isBase call K 1000 26 [(2, this), (0, x1), (0, x2), (2, x3), (0, x4), (0, x5), (0, x6), (0, x7)] [] c =
  if x7 < x5 then
    if x6 = 0 then
      if x6 = 0 ∨ x6 = 1 then some (x6, c) else none
    else
      if c this (-1) = 12 then
        if c (c this 15) (-1) = 100 ∧ (0 : Int) ≤ (zadd (zmul 10 (zadd (zmul 43 x1) x2)) x7) ∧ (zadd (zmul 10 (zadd (zmul 43 x1) x2)) x7) < c (c this 15) (-2) then
          if c x3 (-1) = 100 ∧ (0 : Int) ≤ (zadd x4 x7) ∧ (zadd x4 x7) < c x3 (-2) then
            if (c (c this 15) (zadd (zmul 10 (zadd (zmul 43 x1) x2)) x7)) = (c x3 (zadd x4 x7)) then
              K 26 [(2, this), (0, x1), (0, x2), (2, x3), (0, x4), (0, x5), (0, 1), (0, zw (x7 + 1))] [] c
            else
              K 26 [(2, this), (0, x1), (0, x2), (2, x3), (0, x4), (0, x5), (0, 0), (0, zw (x7 + 1))] [] c
          else none
        else none
      else none
  else
    if x6 = 0 ∨ x6 = 1 then some (x6, c) else none := by rfl
theorem ze_X12_isBase_26 (d F : Nat) (this x1 x2 x3 x4 x5 x6 x7 : Int) (c : zC) : zex zc_X12_isBase zk_X12_isBase (zrun zTab d) (F + 1) 26 [(2, this), (0, x1), (0, x2), (2, x3), (0, x4), (0, x5), (0, x6), (0, x7)] [] c =
  if x7 < x5 then
    if x6 = 0 then
      if x6 = 0 ∨ x6 = 1 then some (x6, c) else none
    else
      if c this (-1) = 12 then
        if c (c this 15) (-1) = 100 ∧ (0 : Int) ≤ (zadd (zmul 10 (zadd (zmul 43 x1) x2)) x7) ∧ (zadd (zmul 10 (zadd (zmul 43 x1) x2)) x7) < c (c this 15) (-2) then
          if c x3 (-1) = 100 ∧ (0 : Int) ≤ (zadd x4 x7) ∧ (zadd x4 x7) < c x3 (-2) then
            if (c (c this 15) (zadd (zmul 10 (zadd (zmul 43 x1) x2)) x7)) = (c x3 (zadd x4 x7)) then
              zex zc_X12_isBase zk_X12_isBase (zrun zTab d) F 26 [(2, this), (0, x1), (0, x2), (2, x3), (0, x4), (0, x5), (0, 1), (0, zw (x7 + 1))] [] c
            else
              zex zc_X12_isBase zk_X12_isBase (zrun zTab d) F 26 [(2, this), (0, x1), (0, x2), (2, x3), (0, x4), (0, x5), (0, 0), (0, zw (x7 + 1))] [] c
          else none
        else none
      else none
  else
    if x6 = 0 ∨ x6 = 1 then some (x6, c) else none := zf_X12_isBase_26 _ _ this x1 x2 x3 x4 x5 x6 x7 c
set_option maxRecDepth 100000 in
theorem zf_X12_lays (call : zCall) (K : zK) (this x1 x2 x3 x4 x5 : Int) (c : zC) : zseg zc_X12_lays zk_X12_lays call K 1000 0 [(2, this), (0, x1), (2, x2), (0, x3), (0, x4), (0, x5), (3, 0), (3, 0)] [] c =
  K 3 [(2, this), (0, x1), (2, x2), (0, x3), (0, x4), (0, x5), (0, 0), (3, 0)] [] c := by rfl
theorem ze_X12_lays (d : Nat) (this x1 x2 x3 x4 x5 : Int) (c : zC) : zrun zTab (d + 1) 176 [this, x1, x2, x3, x4, x5] c =
  zex zc_X12_lays zk_X12_lays (zrun zTab d) 19999 3 [(2, this), (0, x1), (2, x2), (0, x3), (0, x4), (0, x5), (0, 0), (3, 0)] [] c := (zrun_s zt176).trans (zf_X12_lays _ _ this x1 x2 x3 x4 x5 c)
set_option maxRecDepth 100000 in
theorem zf_X12_lays_3 (call : zCall) (K : zK) (this x1 x2 x3 x4 x5 x6 : Int) (c : zC) : zseg zc_X12_lays zk_X12_lays call K 1000 3 [(2, this), (0, x1), (2, x2), (0, x3), (0, x4), (0, x5), (0, x6), (3, 0)] [] c =
  if c this (-1) = 12 then
    if c (c this 12) (-1) = 100 ∧ (0 : Int) ≤ x1 ∧ x1 < c (c this 12) (-2) then
      if x6 < (c (c this 12) x1) then
        if c this (-1) = 12 then
          zbnd (call 175 [this, x1, x6, x2, x3, x4] c) (fun v1 c2 =>
            if v1 = 0 then
              K 3 [(2, this), (0, x1), (2, x2), (0, x3), (0, x4), (0, x5), (0, zw (x6 + 1)), (3, 0)] [] c2
            else
              some (0, c2))
        else none
      else
        if c this (-1) = 12 then
          if c (c this 12) (-1) = 100 ∧ (0 : Int) ≤ x1 ∧ x1 < c (c this 12) (-2) then
            if c this (-1) = 12 then
              if c (c this 12) (-1) = 100 ∧ (0 : Int) ≤ x1 ∧ x1 < c (c this 12) (-2) then
                if c (c this 12) (-1) = 100 ∧ (0 : Int) ≤ x1 ∧ x1 < c (c this 12) (-2) then
                  if (zup c (c this 12) x1 (zadd (c (c this 12) x1) 1)) this (-1) = 12 then
                    if (zup c (c this 12) x1 (zadd (c (c this 12) x1) 1)) ((zup c (c this 12) x1 (zadd (c (c this 12) x1) 1)) this 13) (-1) = 100 ∧ (0 : Int) ≤ (zadd (zmul 43 x1) (c (c this 12) x1)) ∧ (zadd (zmul 43 x1) (c (c this 12) x1)) < (zup c (c this 12) x1 (zadd (c (c this 12) x1) 1)) ((zup c (c this 12) x1 (zadd (c (c this 12) x1) 1)) this 13) (-2) then
                      if (zup (zup c (c this 12) x1 (zadd (c (c this 12) x1) 1)) ((zup c (c this 12) x1 (zadd (c (c this 12) x1) 1)) this 13) (zadd (zmul 43 x1) (c (c this 12) x1)) x5) this (-1) = 12 then
                        if (zup (zup c (c this 12) x1 (zadd (c (c this 12) x1) 1)) ((zup c (c this 12) x1 (zadd (c (c this 12) x1) 1)) this 13) (zadd (zmul 43 x1) (c (c this 12) x1)) x5) ((zup (zup c (c this 12) x1 (zadd (c (c this 12) x1) 1)) ((zup c (c this 12) x1 (zadd (c (c this 12) x1) 1)) this 13) (zadd (zmul 43 x1) (c (c this 12) x1)) x5) this 14) (-1) = 100 ∧ (0 : Int) ≤ (zadd (zmul 43 x1) (c (c this 12) x1)) ∧ (zadd (zmul 43 x1) (c (c this 12) x1)) < (zup (zup c (c this 12) x1 (zadd (c (c this 12) x1) 1)) ((zup c (c this 12) x1 (zadd (c (c this 12) x1) 1)) this 13) (zadd (zmul 43 x1) (c (c this 12) x1)) x5) ((zup (zup c (c this 12) x1 (zadd (c (c this 12) x1) 1)) ((zup c (c this 12) x1 (zadd (c (c this 12) x1) 1)) this 13) (zadd (zmul 43 x1) (c (c this 12) x1)) x5) this 14) (-2) then
                          K 79 [(2, this), (3, 0), (2, x2), (0, x3), (0, x4), (3, 0), (0, zadd (zmul 43 x1) (c (c this 12) x1)), (0, 0)] [] (zup (zup (zup c (c this 12) x1 (zadd (c (c this 12) x1) 1)) ((zup c (c this 12) x1 (zadd (c (c this 12) x1) 1)) this 13) (zadd (zmul 43 x1) (c (c this 12) x1)) x5) ((zup (zup c (c this 12) x1 (zadd (c (c this 12) x1) 1)) ((zup c (c this 12) x1 (zadd (c (c this 12) x1) 1)) this 13) (zadd (zmul 43 x1) (c (c this 12) x1)) x5) this 14) (zadd (zmul 43 x1) (c (c this 12) x1)) x4)
                        else none
                      else none
                    else none
                  else none
                else none
              else none
            else none
          else none
        else none
    else none
  else none := by rfl
theorem ze_X12_lays_3 (d F : Nat) (this x1 x2 x3 x4 x5 x6 : Int) (c : zC) : zex zc_X12_lays zk_X12_lays (zrun zTab d) (F + 1) 3 [(2, this), (0, x1), (2, x2), (0, x3), (0, x4), (0, x5), (0, x6), (3, 0)] [] c =
  if c this (-1) = 12 then
    if c (c this 12) (-1) = 100 ∧ (0 : Int) ≤ x1 ∧ x1 < c (c this 12) (-2) then
      if x6 < (c (c this 12) x1) then
        if c this (-1) = 12 then
          zbnd (zrun zTab d 175 [this, x1, x6, x2, x3, x4] c) (fun v1 c2 =>
            if v1 = 0 then
              zex zc_X12_lays zk_X12_lays (zrun zTab d) F 3 [(2, this), (0, x1), (2, x2), (0, x3), (0, x4), (0, x5), (0, zw (x6 + 1)), (3, 0)] [] c2
            else
              some (0, c2))
        else none
      else
        if c this (-1) = 12 then
          if c (c this 12) (-1) = 100 ∧ (0 : Int) ≤ x1 ∧ x1 < c (c this 12) (-2) then
            if c this (-1) = 12 then
              if c (c this 12) (-1) = 100 ∧ (0 : Int) ≤ x1 ∧ x1 < c (c this 12) (-2) then
                if c (c this 12) (-1) = 100 ∧ (0 : Int) ≤ x1 ∧ x1 < c (c this 12) (-2) then
                  if (zup c (c this 12) x1 (zadd (c (c this 12) x1) 1)) this (-1) = 12 then
                    if (zup c (c this 12) x1 (zadd (c (c this 12) x1) 1)) ((zup c (c this 12) x1 (zadd (c (c this 12) x1) 1)) this 13) (-1) = 100 ∧ (0 : Int) ≤ (zadd (zmul 43 x1) (c (c this 12) x1)) ∧ (zadd (zmul 43 x1) (c (c this 12) x1)) < (zup c (c this 12) x1 (zadd (c (c this 12) x1) 1)) ((zup c (c this 12) x1 (zadd (c (c this 12) x1) 1)) this 13) (-2) then
                      if (zup (zup c (c this 12) x1 (zadd (c (c this 12) x1) 1)) ((zup c (c this 12) x1 (zadd (c (c this 12) x1) 1)) this 13) (zadd (zmul 43 x1) (c (c this 12) x1)) x5) this (-1) = 12 then
                        if (zup (zup c (c this 12) x1 (zadd (c (c this 12) x1) 1)) ((zup c (c this 12) x1 (zadd (c (c this 12) x1) 1)) this 13) (zadd (zmul 43 x1) (c (c this 12) x1)) x5) ((zup (zup c (c this 12) x1 (zadd (c (c this 12) x1) 1)) ((zup c (c this 12) x1 (zadd (c (c this 12) x1) 1)) this 13) (zadd (zmul 43 x1) (c (c this 12) x1)) x5) this 14) (-1) = 100 ∧ (0 : Int) ≤ (zadd (zmul 43 x1) (c (c this 12) x1)) ∧ (zadd (zmul 43 x1) (c (c this 12) x1)) < (zup (zup c (c this 12) x1 (zadd (c (c this 12) x1) 1)) ((zup c (c this 12) x1 (zadd (c (c this 12) x1) 1)) this 13) (zadd (zmul 43 x1) (c (c this 12) x1)) x5) ((zup (zup c (c this 12) x1 (zadd (c (c this 12) x1) 1)) ((zup c (c this 12) x1 (zadd (c (c this 12) x1) 1)) this 13) (zadd (zmul 43 x1) (c (c this 12) x1)) x5) this 14) (-2) then
                          zex zc_X12_lays zk_X12_lays (zrun zTab d) F 79 [(2, this), (3, 0), (2, x2), (0, x3), (0, x4), (3, 0), (0, zadd (zmul 43 x1) (c (c this 12) x1)), (0, 0)] [] (zup (zup (zup c (c this 12) x1 (zadd (c (c this 12) x1) 1)) ((zup c (c this 12) x1 (zadd (c (c this 12) x1) 1)) this 13) (zadd (zmul 43 x1) (c (c this 12) x1)) x5) ((zup (zup c (c this 12) x1 (zadd (c (c this 12) x1) 1)) ((zup c (c this 12) x1 (zadd (c (c this 12) x1) 1)) this 13) (zadd (zmul 43 x1) (c (c this 12) x1)) x5) this 14) (zadd (zmul 43 x1) (c (c this 12) x1)) x4)
                        else none
                      else none
                    else none
                  else none
                else none
              else none
            else none
          else none
        else none
    else none
  else none := zf_X12_lays_3 _ _ this x1 x2 x3 x4 x5 x6 c
set_option maxRecDepth 100000 in
theorem zf_X12_lays_79 (call : zCall) (K : zK) (this x2 x3 x4 x6 x7 : Int) (c : zC) : zseg zc_X12_lays zk_X12_lays call K 1000 79 [(2, this), (3, 0), (2, x2), (0, x3), (0, x4), (3, 0), (0, x6), (0, x7)] [] c =
  if x7 < x4 then
    if c this (-1) = 12 then
      if c x2 (-1) = 100 ∧ (0 : Int) ≤ (zadd x3 x7) ∧ (zadd x3 x7) < c x2 (-2) then
        if c (c this 15) (-1) = 100 ∧ (0 : Int) ≤ (zadd (zmul 10 x6) x7) ∧ (zadd (zmul 10 x6) x7) < c (c this 15) (-2) then
          K 79 [(2, this), (3, 0), (2, x2), (0, x3), (0, x4), (3, 0), (0, x6), (0, zw (x7 + 1))] [] (zup c (c this 15) (zadd (zmul 10 x6) x7) (c x2 (zadd x3 x7)))
        else none
      else none
    else none
  else
    some (0, c) := by rfl
theorem ze_X12_lays_79 (d F : Nat) (this x2 x3 x4 x6 x7 : Int) (c : zC) : zex zc_X12_lays zk_X12_lays (zrun zTab d) (F + 1) 79 [(2, this), (3, 0), (2, x2), (0, x3), (0, x4), (3, 0), (0, x6), (0, x7)] [] c =
  if x7 < x4 then
    if c this (-1) = 12 then
      if c x2 (-1) = 100 ∧ (0 : Int) ≤ (zadd x3 x7) ∧ (zadd x3 x7) < c x2 (-2) then
        if c (c this 15) (-1) = 100 ∧ (0 : Int) ≤ (zadd (zmul 10 x6) x7) ∧ (zadd (zmul 10 x6) x7) < c (c this 15) (-2) then
          zex zc_X12_lays zk_X12_lays (zrun zTab d) F 79 [(2, this), (3, 0), (2, x2), (0, x3), (0, x4), (3, 0), (0, x6), (0, zw (x7 + 1))] [] (zup c (c this 15) (zadd (zmul 10 x6) x7) (c x2 (zadd x3 x7)))
        else none
      else none
    else none
  else
    some (0, c) := zf_X12_lays_79 _ _ this x2 x3 x4 x6 x7 c
set_option maxRecDepth 100000 in
theorem zf_X12_bases (call : zCall) (K : zK) (this x1 x2 : Int) (c : zC) : zseg zc_X12_bases zk_X12_bases call K 1000 0 [(2, this), (0, x1), (0, x2), (3, 0), (3, 0), (3, 0), (3, 0), (3, 0), (3, 0)] [] c =
  zbnd (call 144 [x1, x2] c) (fun v1 c2 =>
    if c2 this (-1) = 12 then
      if c2 (c2 this 0) (-1) = 100 ∧ (0 : Int) ≤ (zsub (zadd v1 2) 1) ∧ (zsub (zadd v1 2) 1) < c2 (c2 this 0) (-2) then
        if c2 this (-1) = 12 then
          if c2 (c2 this 12) (-1) = 100 ∧ (0 : Int) ≤ x2 ∧ x2 < c2 (c2 this 12) (-2) then
            if (zup c2 (c2 this 12) x2 0) this (-1) = 12 then
              if (zup c2 (c2 this 12) x2 0) this (-1) = 12 then
                zbnd (call 176 [this, x2, (zup c2 (c2 this 12) x2 0) this 0, zadd v1 2, c2 (c2 this 0) (zsub (zadd v1 2) 1), 0] (zup c2 (c2 this 12) x2 0)) (fun _ c4 =>
                  K 41 [(2, this), (3, 0), (0, x2), (0, zadd v1 2), (0, c2 (c2 this 0) (zsub (zadd v1 2) 1)), (0, 0), (3, 0), (3, 0), (3, 0)] [] c4)
              else none
            else none
          else none
        else none
      else none
    else none) := by rfl
theorem ze_X12_bases (d : Nat) (this x1 x2 : Int) (c : zC) : zrun zTab (d + 1) 177 [this, x1, x2] c =
  zbnd (zrun zTab d 144 [x1, x2] c) (fun v1 c2 =>
    if c2 this (-1) = 12 then
      if c2 (c2 this 0) (-1) = 100 ∧ (0 : Int) ≤ (zsub (zadd v1 2) 1) ∧ (zsub (zadd v1 2) 1) < c2 (c2 this 0) (-2) then
        if c2 this (-1) = 12 then
          if c2 (c2 this 12) (-1) = 100 ∧ (0 : Int) ≤ x2 ∧ x2 < c2 (c2 this 12) (-2) then
            if (zup c2 (c2 this 12) x2 0) this (-1) = 12 then
              if (zup c2 (c2 this 12) x2 0) this (-1) = 12 then
                zbnd (zrun zTab d 176 [this, x2, (zup c2 (c2 this 12) x2 0) this 0, zadd v1 2, c2 (c2 this 0) (zsub (zadd v1 2) 1), 0] (zup c2 (c2 this 12) x2 0)) (fun _ c4 =>
                  zex zc_X12_bases zk_X12_bases (zrun zTab d) 19999 41 [(2, this), (3, 0), (0, x2), (0, zadd v1 2), (0, c2 (c2 this 0) (zsub (zadd v1 2) 1)), (0, 0), (3, 0), (3, 0), (3, 0)] [] c4)
              else none
            else none
          else none
        else none
      else none
    else none) := (zrun_s zt177).trans (zf_X12_bases _ _ this x1 x2 c)
set_option maxRecDepth 100000 in
theorem zf_X12_bases_41 (call : zCall) (K : zK) (this x2 x3 x4 x5 : Int) (c : zC) : zseg zc_X12_bases zk_X12_bases call K 1000 41 [(2, this), (3, 0), (0, x2), (0, x3), (0, x4), (0, x5), (3, 0), (3, 0), (3, 0)] [] c =
  if c this (-1) = 12 then
    zbnd (call 148 [this] c) (fun v1 c2 =>
      if x5 < v1 then
        if c2 this (-1) = 12 then
          if c2 this (-1) = 12 then
            if c2 this (-1) = 12 then
              zbnd (call 174 [this, x5, c2 this 0, x3, x4, c2 this 16] c2) (fun v3 c4 =>
                if v3 < 0 then
                  K 41 [(2, this), (3, 0), (0, x2), (0, x3), (0, x4), (0, zw (x5 + 1)), (3, 0), (3, 0), (3, 0)] [] c4
                else
                  if c4 this (-1) = 12 then
                    if c4 this (-1) = 12 then
                      zbnd (call 176 [this, x2, c4 this 16, 0, v3, 1] c4) (fun _ c6 =>
                        K 41 [(2, this), (3, 0), (0, x2), (0, x3), (0, x4), (0, zw (x5 + 1)), (3, 0), (3, 0), (3, 0)] [] c6)
                    else none
                  else none)
            else none
          else none
        else none
      else
        K 96 [(2, this), (3, 0), (0, x2), (0, x3), (0, x4), (0, 0), (3, 0), (3, 0), (3, 0)] [] c2)
  else none := by rfl
theorem ze_X12_bases_41 (d F : Nat) (this x2 x3 x4 x5 : Int) (c : zC) : zex zc_X12_bases zk_X12_bases (zrun zTab d) (F + 1) 41 [(2, this), (3, 0), (0, x2), (0, x3), (0, x4), (0, x5), (3, 0), (3, 0), (3, 0)] [] c =
  if c this (-1) = 12 then
    zbnd (zrun zTab d 148 [this] c) (fun v1 c2 =>
      if x5 < v1 then
        if c2 this (-1) = 12 then
          if c2 this (-1) = 12 then
            if c2 this (-1) = 12 then
              zbnd (zrun zTab d 174 [this, x5, c2 this 0, x3, x4, c2 this 16] c2) (fun v3 c4 =>
                if v3 < 0 then
                  zex zc_X12_bases zk_X12_bases (zrun zTab d) F 41 [(2, this), (3, 0), (0, x2), (0, x3), (0, x4), (0, zw (x5 + 1)), (3, 0), (3, 0), (3, 0)] [] c4
                else
                  if c4 this (-1) = 12 then
                    if c4 this (-1) = 12 then
                      zbnd (zrun zTab d 176 [this, x2, c4 this 16, 0, v3, 1] c4) (fun _ c6 =>
                        zex zc_X12_bases zk_X12_bases (zrun zTab d) F 41 [(2, this), (3, 0), (0, x2), (0, x3), (0, x4), (0, zw (x5 + 1)), (3, 0), (3, 0), (3, 0)] [] c6)
                    else none
                  else none)
            else none
          else none
        else none
      else
        zex zc_X12_bases zk_X12_bases (zrun zTab d) F 96 [(2, this), (3, 0), (0, x2), (0, x3), (0, x4), (0, 0), (3, 0), (3, 0), (3, 0)] [] c2)
  else none := zf_X12_bases_41 _ _ this x2 x3 x4 x5 c
set_option maxRecDepth 100000 in
theorem zf_X12_bases_96 (call : zCall) (K : zK) (this x2 x3 x4 x5 : Int) (c : zC) : zseg zc_X12_bases zk_X12_bases call K 1000 96 [(2, this), (3, 0), (0, x2), (0, x3), (0, x4), (0, x5), (3, 0), (3, 0), (3, 0)] [] c =
  if c this (-1) = 12 then
    zbnd (call 148 [this] c) (fun v1 c2 =>
      if x5 < v1 then
        if c2 this (-1) = 12 then
          if c2 this (-1) = 12 then
            if c2 this (-1) = 12 then
              zbnd (call 174 [this, x5, c2 this 0, x3, x4, c2 this 16] c2) (fun v3 c4 =>
                K 127 [(2, this), (3, 0), (0, x2), (0, x3), (0, x4), (0, x5), (0, v3), (0, 0), (3, 0)] [] c4)
            else none
          else none
        else none
      else
        some (0, c2))
  else none := by rfl
theorem ze_X12_bases_96 (d F : Nat) (this x2 x3 x4 x5 : Int) (c : zC) : zex zc_X12_bases zk_X12_bases (zrun zTab d) (F + 1) 96 [(2, this), (3, 0), (0, x2), (0, x3), (0, x4), (0, x5), (3, 0), (3, 0), (3, 0)] [] c =
  if c this (-1) = 12 then
    zbnd (zrun zTab d 148 [this] c) (fun v1 c2 =>
      if x5 < v1 then
        if c2 this (-1) = 12 then
          if c2 this (-1) = 12 then
            if c2 this (-1) = 12 then
              zbnd (zrun zTab d 174 [this, x5, c2 this 0, x3, x4, c2 this 16] c2) (fun v3 c4 =>
                zex zc_X12_bases zk_X12_bases (zrun zTab d) F 127 [(2, this), (3, 0), (0, x2), (0, x3), (0, x4), (0, x5), (0, v3), (0, 0), (3, 0)] [] c4)
            else none
          else none
        else none
      else
        some (0, c2))
  else none := zf_X12_bases_96 _ _ this x2 x3 x4 x5 c
set_option maxRecDepth 100000 in
theorem zf_X12_bases_127 (call : zCall) (K : zK) (this x2 x3 x4 x5 x6 x7 : Int) (c : zC) : zseg zc_X12_bases zk_X12_bases call K 1000 127 [(2, this), (3, 0), (0, x2), (0, x3), (0, x4), (0, x5), (0, x6), (0, x7), (3, 0)] [] c =
  if c this (-1) = 12 then
    zbnd (call 148 [this] c) (fun v1 c2 =>
      if x7 < v1 then
        if x6 < 0 then
          K 96 [(2, this), (3, 0), (0, x2), (0, x3), (0, x4), (0, zw (x5 + 1)), (3, 0), (3, 0), (3, 0)] [] c2
        else
          if c2 this (-1) = 12 then
            if c2 this (-1) = 12 then
              if c2 this (-1) = 12 then
                zbnd (call 174 [this, x7, c2 this 16, 0, x6, c2 this 17] c2) (fun v3 c4 =>
                  if v3 < 0 then
                    K 127 [(2, this), (3, 0), (0, x2), (0, x3), (0, x4), (0, x5), (0, x6), (0, zw (x7 + 1)), (3, 0)] [] c4
                  else
                    if c4 this (-1) = 12 then
                      if c4 this (-1) = 12 then
                        zbnd (call 176 [this, x2, c4 this 17, 0, v3, 2] c4) (fun _ c6 =>
                          K 127 [(2, this), (3, 0), (0, x2), (0, x3), (0, x4), (0, x5), (0, x6), (0, zw (x7 + 1)), (3, 0)] [] c6)
                      else none
                    else none)
              else none
            else none
          else none
      else
        K 96 [(2, this), (3, 0), (0, x2), (0, x3), (0, x4), (0, zw (x5 + 1)), (3, 0), (3, 0), (3, 0)] [] c2)
  else none := by rfl
theorem ze_X12_bases_127 (d F : Nat) (this x2 x3 x4 x5 x6 x7 : Int) (c : zC) : zex zc_X12_bases zk_X12_bases (zrun zTab d) (F + 1) 127 [(2, this), (3, 0), (0, x2), (0, x3), (0, x4), (0, x5), (0, x6), (0, x7), (3, 0)] [] c =
  if c this (-1) = 12 then
    zbnd (zrun zTab d 148 [this] c) (fun v1 c2 =>
      if x7 < v1 then
        if x6 < 0 then
          zex zc_X12_bases zk_X12_bases (zrun zTab d) F 96 [(2, this), (3, 0), (0, x2), (0, x3), (0, x4), (0, zw (x5 + 1)), (3, 0), (3, 0), (3, 0)] [] c2
        else
          if c2 this (-1) = 12 then
            if c2 this (-1) = 12 then
              if c2 this (-1) = 12 then
                zbnd (zrun zTab d 174 [this, x7, c2 this 16, 0, x6, c2 this 17] c2) (fun v3 c4 =>
                  if v3 < 0 then
                    zex zc_X12_bases zk_X12_bases (zrun zTab d) F 127 [(2, this), (3, 0), (0, x2), (0, x3), (0, x4), (0, x5), (0, x6), (0, zw (x7 + 1)), (3, 0)] [] c4
                  else
                    if c4 this (-1) = 12 then
                      if c4 this (-1) = 12 then
                        zbnd (zrun zTab d 176 [this, x2, c4 this 17, 0, v3, 2] c4) (fun _ c6 =>
                          zex zc_X12_bases zk_X12_bases (zrun zTab d) F 127 [(2, this), (3, 0), (0, x2), (0, x3), (0, x4), (0, x5), (0, x6), (0, zw (x7 + 1)), (3, 0)] [] c6)
                      else none
                    else none)
              else none
            else none
          else none
      else
        zex zc_X12_bases zk_X12_bases (zrun zTab d) F 96 [(2, this), (3, 0), (0, x2), (0, x3), (0, x4), (0, zw (x5 + 1)), (3, 0), (3, 0), (3, 0)] [] c2)
  else none := zf_X12_bases_127 _ _ this x2 x3 x4 x5 x6 x7 c
set_option maxRecDepth 100000 in
theorem zf_X12_isHead (call : zCall) (K : zK) (this x1 x2 x3 : Int) (c : zC) : zseg zc_X12_isHead zk_X12_isHead call K 1000 0 [(2, this), (0, x1), (0, x2), (0, x3)] [] c =
  if c this (-1) = 12 then
    zbnd (call 151 [x1] c) (fun v1 c2 =>
      if c2 this (-1) = 12 then
        zbnd (call 151 [x1] c2) (fun v3 c4 =>
          if c4 (c2 this 0) (-1) = 100 ∧ (0 : Int) ≤ v3 ∧ v3 < c4 (c2 this 0) (-2) then
            if c4 this (-1) = 12 then
              zbnd (call 175 [this, x2, x3, c this 0, zadd v1 1, c4 (c2 this 0) v3] c4) (fun v5 c6 =>
                if v5 = 0 ∨ v5 = 1 then some (v5, c6) else none)
            else none
          else none)
      else none)
  else none := by rfl
theorem ze_X12_isHead (d : Nat) (this x1 x2 x3 : Int) (c : zC) : zrun zTab (d + 1) 178 [this, x1, x2, x3] c =
  if c this (-1) = 12 then
    zbnd (zrun zTab d 151 [x1] c) (fun v1 c2 =>
      if c2 this (-1) = 12 then
        zbnd (zrun zTab d 151 [x1] c2) (fun v3 c4 =>
          if c4 (c2 this 0) (-1) = 100 ∧ (0 : Int) ≤ v3 ∧ v3 < c4 (c2 this 0) (-2) then
            if c4 this (-1) = 12 then
              zbnd (zrun zTab d 175 [this, x2, x3, c this 0, zadd v1 1, c4 (c2 this 0) v3] c4) (fun v5 c6 =>
                if v5 = 0 ∨ v5 = 1 then some (v5, c6) else none)
            else none
          else none)
      else none)
  else none := (zrun_s zt178).trans (zf_X12_isHead _ _ this x1 x2 x3 c)
set_option maxRecDepth 100000 in
theorem zf_X12_score (call : zCall) (K : zK) (this x1 x2 x3 : Int) (c : zC) : zseg zc_X12_score zk_X12_score call K 1000 0 [(2, this), (0, x1), (0, x2), (0, x3), (3, 0), (3, 0), (3, 0), (3, 0), (3, 0)] [] c =
  K 6 [(2, this), (0, x1), (0, x2), (0, x3), (0, 0), (0, 0), (3, 0), (3, 0), (3, 0)] [] c := by rfl
theorem ze_X12_score (d : Nat) (this x1 x2 x3 : Int) (c : zC) : zrun zTab (d + 1) 179 [this, x1, x2, x3] c =
  zex zc_X12_score zk_X12_score (zrun zTab d) 19999 6 [(2, this), (0, x1), (0, x2), (0, x3), (0, 0), (0, 0), (3, 0), (3, 0), (3, 0)] [] c := (zrun_s zt179).trans (zf_X12_score _ _ this x1 x2 x3 c)
set_option maxRecDepth 100000 in
theorem zf_X12_score_6 (call : zCall) (K : zK) (this x1 x2 x3 x4 x5 : Int) (c : zC) : zseg zc_X12_score zk_X12_score call K 1000 6 [(2, this), (0, x1), (0, x2), (0, x3), (0, x4), (0, x5), (3, 0), (3, 0), (3, 0)] [] c =
  if c this (-1) = 12 then
    zbnd (call 152 [this, x3] c) (fun v1 c2 =>
      if x5 < v1 then
        K 24 [(2, this), (0, x1), (0, x2), (0, x3), (0, x4), (0, x5), (0, 0), (0, zsub x2 1), (3, 0)] [] c2
      else
        some (x4, c2))
  else none := by rfl
theorem ze_X12_score_6 (d F : Nat) (this x1 x2 x3 x4 x5 : Int) (c : zC) : zex zc_X12_score zk_X12_score (zrun zTab d) (F + 1) 6 [(2, this), (0, x1), (0, x2), (0, x3), (0, x4), (0, x5), (3, 0), (3, 0), (3, 0)] [] c =
  if c this (-1) = 12 then
    zbnd (zrun zTab d 152 [this, x3] c) (fun v1 c2 =>
      if x5 < v1 then
        zex zc_X12_score zk_X12_score (zrun zTab d) F 24 [(2, this), (0, x1), (0, x2), (0, x3), (0, x4), (0, x5), (0, 0), (0, zsub x2 1), (3, 0)] [] c2
      else
        some (x4, c2))
  else none := zf_X12_score_6 _ _ this x1 x2 x3 x4 x5 c
set_option maxRecDepth 100000 in
theorem zf_X12_score_24 (call : zCall) (K : zK) (this x1 x2 x3 x4 x5 x6 x7 : Int) (c : zC) : zseg zc_X12_score zk_X12_score call K 1000 24 [(2, this), (0, x1), (0, x2), (0, x3), (0, x4), (0, x5), (0, x6), (0, x7), (3, 0)] [] c =
  if x7 < 0 then
    if x6 = 0 then
      K 6 [(2, this), (0, x1), (0, x2), (0, x3), (0, zadd x4 0), (0, zw (x5 + 1)), (3, 0), (3, 0), (3, 0)] [] c
    else
      K 6 [(2, this), (0, x1), (0, x2), (0, x3), (0, zadd x4 1), (0, zw (x5 + 1)), (3, 0), (3, 0), (3, 0)] [] c
  else
    if c this (-1) = 12 then
      if c (c this 0) (-1) = 100 ∧ (0 : Int) ≤ 1480 ∧ 1480 < c (c this 0) (-2) then
        if x7 < (zsub x2 (c (c this 0) 1480)) then
          if x6 = 0 then
            K 6 [(2, this), (0, x1), (0, x2), (0, x3), (0, zadd x4 0), (0, zw (x5 + 1)), (3, 0), (3, 0), (3, 0)] [] c
          else
            K 6 [(2, this), (0, x1), (0, x2), (0, x3), (0, zadd x4 1), (0, zw (x5 + 1)), (3, 0), (3, 0), (3, 0)] [] c
        else
          if c this (-1) = 12 then
            zbnd (call 146 [this, x1, x7] c) (fun v1 c2 =>
              if c2 this (-1) = 12 then
                zbnd (call 146 [this, x1, x2] c2) (fun v3 c4 =>
                  if v1 = v3 then
                    K 63 [(2, this), (0, x1), (0, x2), (0, x3), (0, x4), (0, x5), (0, x6), (0, x7), (0, 0)] [] c4
                  else
                    if x6 = 0 then
                      K 6 [(2, this), (0, x1), (0, x2), (0, x3), (0, zadd x4 0), (0, zw (x5 + 1)), (3, 0), (3, 0), (3, 0)] [] c4
                    else
                      K 6 [(2, this), (0, x1), (0, x2), (0, x3), (0, zadd x4 1), (0, zw (x5 + 1)), (3, 0), (3, 0), (3, 0)] [] c4)
              else none)
          else none
      else none
    else none := by rfl
theorem ze_X12_score_24 (d F : Nat) (this x1 x2 x3 x4 x5 x6 x7 : Int) (c : zC) : zex zc_X12_score zk_X12_score (zrun zTab d) (F + 1) 24 [(2, this), (0, x1), (0, x2), (0, x3), (0, x4), (0, x5), (0, x6), (0, x7), (3, 0)] [] c =
  if x7 < 0 then
    if x6 = 0 then
      zex zc_X12_score zk_X12_score (zrun zTab d) F 6 [(2, this), (0, x1), (0, x2), (0, x3), (0, zadd x4 0), (0, zw (x5 + 1)), (3, 0), (3, 0), (3, 0)] [] c
    else
      zex zc_X12_score zk_X12_score (zrun zTab d) F 6 [(2, this), (0, x1), (0, x2), (0, x3), (0, zadd x4 1), (0, zw (x5 + 1)), (3, 0), (3, 0), (3, 0)] [] c
  else
    if c this (-1) = 12 then
      if c (c this 0) (-1) = 100 ∧ (0 : Int) ≤ 1480 ∧ 1480 < c (c this 0) (-2) then
        if x7 < (zsub x2 (c (c this 0) 1480)) then
          if x6 = 0 then
            zex zc_X12_score zk_X12_score (zrun zTab d) F 6 [(2, this), (0, x1), (0, x2), (0, x3), (0, zadd x4 0), (0, zw (x5 + 1)), (3, 0), (3, 0), (3, 0)] [] c
          else
            zex zc_X12_score zk_X12_score (zrun zTab d) F 6 [(2, this), (0, x1), (0, x2), (0, x3), (0, zadd x4 1), (0, zw (x5 + 1)), (3, 0), (3, 0), (3, 0)] [] c
        else
          if c this (-1) = 12 then
            zbnd (zrun zTab d 146 [this, x1, x7] c) (fun v1 c2 =>
              if c2 this (-1) = 12 then
                zbnd (zrun zTab d 146 [this, x1, x2] c2) (fun v3 c4 =>
                  if v1 = v3 then
                    zex zc_X12_score zk_X12_score (zrun zTab d) F 63 [(2, this), (0, x1), (0, x2), (0, x3), (0, x4), (0, x5), (0, x6), (0, x7), (0, 0)] [] c4
                  else
                    if x6 = 0 then
                      zex zc_X12_score zk_X12_score (zrun zTab d) F 6 [(2, this), (0, x1), (0, x2), (0, x3), (0, zadd x4 0), (0, zw (x5 + 1)), (3, 0), (3, 0), (3, 0)] [] c4
                    else
                      zex zc_X12_score zk_X12_score (zrun zTab d) F 6 [(2, this), (0, x1), (0, x2), (0, x3), (0, zadd x4 1), (0, zw (x5 + 1)), (3, 0), (3, 0), (3, 0)] [] c4)
              else none)
          else none
      else none
    else none := zf_X12_score_24 _ _ this x1 x2 x3 x4 x5 x6 x7 c
set_option maxRecDepth 100000 in
theorem zf_X12_score_63 (call : zCall) (K : zK) (this x1 x2 x3 x4 x5 x6 x7 x8 : Int) (c : zC) : zseg zc_X12_score zk_X12_score call K 1000 63 [(2, this), (0, x1), (0, x2), (0, x3), (0, x4), (0, x5), (0, x6), (0, x7), (0, x8)] [] c =
  if c this (-1) = 12 then
    if c (c this 12) (-1) = 100 ∧ (0 : Int) ≤ x7 ∧ x7 < c (c this 12) (-2) then
      if x8 < (c (c this 12) x7) then
        if x6 = 0 then
          if c this (-1) = 12 then
            zbnd (call 153 [x3, x5] c) (fun v1 c2 =>
              if c2 this (-1) = 12 then
                zbnd (call 153 [x3, x5] c2) (fun v3 c4 =>
                  if c4 (c2 this 0) (-1) = 100 ∧ (0 : Int) ≤ v3 ∧ v3 < c4 (c2 this 0) (-2) then
                    if c4 this (-1) = 12 then
                      zbnd (call 175 [this, x7, x8, c this 0, zadd v1 1, c4 (c2 this 0) v3] c4) (fun v5 c6 =>
                        if v5 = 0 then
                          K 63 [(2, this), (0, x1), (0, x2), (0, x3), (0, x4), (0, x5), (0, 0), (0, x7), (0, zw (x8 + 1))] [] c6
                        else
                          K 63 [(2, this), (0, x1), (0, x2), (0, x3), (0, x4), (0, x5), (0, 1), (0, x7), (0, zw (x8 + 1))] [] c6)
                    else none
                  else none)
              else none)
          else none
        else
          K 63 [(2, this), (0, x1), (0, x2), (0, x3), (0, x4), (0, x5), (0, 1), (0, x7), (0, zw (x8 + 1))] [] c
      else
        K 24 [(2, this), (0, x1), (0, x2), (0, x3), (0, x4), (0, x5), (0, x6), (0, zw (x7 + (-1))), (3, 0)] [] c
    else none
  else none := by rfl
theorem ze_X12_score_63 (d F : Nat) (this x1 x2 x3 x4 x5 x6 x7 x8 : Int) (c : zC) : zex zc_X12_score zk_X12_score (zrun zTab d) (F + 1) 63 [(2, this), (0, x1), (0, x2), (0, x3), (0, x4), (0, x5), (0, x6), (0, x7), (0, x8)] [] c =
  if c this (-1) = 12 then
    if c (c this 12) (-1) = 100 ∧ (0 : Int) ≤ x7 ∧ x7 < c (c this 12) (-2) then
      if x8 < (c (c this 12) x7) then
        if x6 = 0 then
          if c this (-1) = 12 then
            zbnd (zrun zTab d 153 [x3, x5] c) (fun v1 c2 =>
              if c2 this (-1) = 12 then
                zbnd (zrun zTab d 153 [x3, x5] c2) (fun v3 c4 =>
                  if c4 (c2 this 0) (-1) = 100 ∧ (0 : Int) ≤ v3 ∧ v3 < c4 (c2 this 0) (-2) then
                    if c4 this (-1) = 12 then
                      zbnd (zrun zTab d 175 [this, x7, x8, c this 0, zadd v1 1, c4 (c2 this 0) v3] c4) (fun v5 c6 =>
                        if v5 = 0 then
                          zex zc_X12_score zk_X12_score (zrun zTab d) F 63 [(2, this), (0, x1), (0, x2), (0, x3), (0, x4), (0, x5), (0, 0), (0, x7), (0, zw (x8 + 1))] [] c6
                        else
                          zex zc_X12_score zk_X12_score (zrun zTab d) F 63 [(2, this), (0, x1), (0, x2), (0, x3), (0, x4), (0, x5), (0, 1), (0, x7), (0, zw (x8 + 1))] [] c6)
                    else none
                  else none)
              else none)
          else none
        else
          zex zc_X12_score zk_X12_score (zrun zTab d) F 63 [(2, this), (0, x1), (0, x2), (0, x3), (0, x4), (0, x5), (0, 1), (0, x7), (0, zw (x8 + 1))] [] c
      else
        zex zc_X12_score zk_X12_score (zrun zTab d) F 24 [(2, this), (0, x1), (0, x2), (0, x3), (0, x4), (0, x5), (0, x6), (0, zw (x7 + (-1))), (3, 0)] [] c
    else none
  else none := zf_X12_score_63 _ _ this x1 x2 x3 x4 x5 x6 x7 x8 c
set_option maxRecDepth 100000 in
theorem zf_X12_means (call : zCall) (K : zK) (this x1 x2 : Int) (c : zC) : zseg zc_X12_means zk_X12_means call K 1000 0 [(2, this), (0, x1), (0, x2), (3, 0), (3, 0), (3, 0)] [] c =
  if c this (-1) = 12 then
    if c (c this 18) (-1) = 100 ∧ (0 : Int) ≤ x2 ∧ x2 < c (c this 18) (-2) then
      if (zup c (c this 18) x2 (-1)) this (-1) = 12 then
        if (zup c (c this 18) x2 (-1)) ((zup c (c this 18) x2 (-1)) this 19) (-1) = 100 ∧ (0 : Int) ≤ x2 ∧ x2 < (zup c (c this 18) x2 (-1)) ((zup c (c this 18) x2 (-1)) this 19) (-2) then
          if (zup (zup c (c this 18) x2 (-1)) ((zup c (c this 18) x2 (-1)) this 19) x2 (-1)) this (-1) = 12 then
            if (zup (zup c (c this 18) x2 (-1)) ((zup c (c this 18) x2 (-1)) this 19) x2 (-1)) ((zup (zup c (c this 18) x2 (-1)) ((zup c (c this 18) x2 (-1)) this 19) x2 (-1)) this 20) (-1) = 100 ∧ (0 : Int) ≤ x2 ∧ x2 < (zup (zup c (c this 18) x2 (-1)) ((zup c (c this 18) x2 (-1)) this 19) x2 (-1)) ((zup (zup c (c this 18) x2 (-1)) ((zup c (c this 18) x2 (-1)) this 19) x2 (-1)) this 20) (-2) then
              K 23 [(2, this), (0, x1), (0, x2), (0, 0), (3, 0), (3, 0)] [] (zup (zup (zup c (c this 18) x2 (-1)) ((zup c (c this 18) x2 (-1)) this 19) x2 (-1)) ((zup (zup c (c this 18) x2 (-1)) ((zup c (c this 18) x2 (-1)) this 19) x2 (-1)) this 20) x2 (-1))
            else none
          else none
        else none
      else none
    else none
  else none := by rfl
theorem ze_X12_means (d : Nat) (this x1 x2 : Int) (c : zC) : zrun zTab (d + 1) 180 [this, x1, x2] c =
  if c this (-1) = 12 then
    if c (c this 18) (-1) = 100 ∧ (0 : Int) ≤ x2 ∧ x2 < c (c this 18) (-2) then
      if (zup c (c this 18) x2 (-1)) this (-1) = 12 then
        if (zup c (c this 18) x2 (-1)) ((zup c (c this 18) x2 (-1)) this 19) (-1) = 100 ∧ (0 : Int) ≤ x2 ∧ x2 < (zup c (c this 18) x2 (-1)) ((zup c (c this 18) x2 (-1)) this 19) (-2) then
          if (zup (zup c (c this 18) x2 (-1)) ((zup c (c this 18) x2 (-1)) this 19) x2 (-1)) this (-1) = 12 then
            if (zup (zup c (c this 18) x2 (-1)) ((zup c (c this 18) x2 (-1)) this 19) x2 (-1)) ((zup (zup c (c this 18) x2 (-1)) ((zup c (c this 18) x2 (-1)) this 19) x2 (-1)) this 20) (-1) = 100 ∧ (0 : Int) ≤ x2 ∧ x2 < (zup (zup c (c this 18) x2 (-1)) ((zup c (c this 18) x2 (-1)) this 19) x2 (-1)) ((zup (zup c (c this 18) x2 (-1)) ((zup c (c this 18) x2 (-1)) this 19) x2 (-1)) this 20) (-2) then
              zex zc_X12_means zk_X12_means (zrun zTab d) 19999 23 [(2, this), (0, x1), (0, x2), (0, 0), (3, 0), (3, 0)] [] (zup (zup (zup c (c this 18) x2 (-1)) ((zup c (c this 18) x2 (-1)) this 19) x2 (-1)) ((zup (zup c (c this 18) x2 (-1)) ((zup c (c this 18) x2 (-1)) this 19) x2 (-1)) this 20) x2 (-1))
            else none
          else none
        else none
      else none
    else none
  else none := (zrun_s zt180).trans (zf_X12_means _ _ this x1 x2 c)
set_option maxRecDepth 100000 in
theorem zf_X12_means_23 (call : zCall) (K : zK) (this x1 x2 x3 : Int) (c : zC) : zseg zc_X12_means zk_X12_means call K 1000 23 [(2, this), (0, x1), (0, x2), (0, x3), (3, 0), (3, 0)] [] c =
  if c this (-1) = 12 then
    if c (c this 12) (-1) = 100 ∧ (0 : Int) ≤ x2 ∧ x2 < c (c this 12) (-2) then
      if x3 < (c (c this 12) x2) then
        if c this (-1) = 12 then
          if c (c this 18) (-1) = 100 ∧ (0 : Int) ≤ x2 ∧ x2 < c (c this 18) (-2) then
            if (c (c this 18) x2) < 0 then
              K 45 [(2, this), (0, x1), (0, x2), (0, x3), (0, 0), (3, 0)] [] c
            else
              if c this (-1) = 12 then
                if c (c this 18) (-1) = 100 ∧ (0 : Int) ≤ x2 ∧ x2 < c (c this 18) (-2) then
                  if (c (c this 18) x2) < 0 then
                    some (0, c)
                  else
                    K 108 [(2, this), (0, x1), (0, x2), (0, 0), (0, 0), (3, 0)] [] c
                else none
              else none
          else none
        else none
      else
        if c this (-1) = 12 then
          if c (c this 18) (-1) = 100 ∧ (0 : Int) ≤ x2 ∧ x2 < c (c this 18) (-2) then
            if (c (c this 18) x2) < 0 then
              some (0, c)
            else
              K 108 [(2, this), (0, x1), (0, x2), (0, 0), (0, 0), (3, 0)] [] c
          else none
        else none
    else none
  else none := by rfl
theorem ze_X12_means_23 (d F : Nat) (this x1 x2 x3 : Int) (c : zC) : zex zc_X12_means zk_X12_means (zrun zTab d) (F + 1) 23 [(2, this), (0, x1), (0, x2), (0, x3), (3, 0), (3, 0)] [] c =
  if c this (-1) = 12 then
    if c (c this 12) (-1) = 100 ∧ (0 : Int) ≤ x2 ∧ x2 < c (c this 12) (-2) then
      if x3 < (c (c this 12) x2) then
        if c this (-1) = 12 then
          if c (c this 18) (-1) = 100 ∧ (0 : Int) ≤ x2 ∧ x2 < c (c this 18) (-2) then
            if (c (c this 18) x2) < 0 then
              zex zc_X12_means zk_X12_means (zrun zTab d) F 45 [(2, this), (0, x1), (0, x2), (0, x3), (0, 0), (3, 0)] [] c
            else
              if c this (-1) = 12 then
                if c (c this 18) (-1) = 100 ∧ (0 : Int) ≤ x2 ∧ x2 < c (c this 18) (-2) then
                  if (c (c this 18) x2) < 0 then
                    some (0, c)
                  else
                    zex zc_X12_means zk_X12_means (zrun zTab d) F 108 [(2, this), (0, x1), (0, x2), (0, 0), (0, 0), (3, 0)] [] c
                else none
              else none
          else none
        else none
      else
        if c this (-1) = 12 then
          if c (c this 18) (-1) = 100 ∧ (0 : Int) ≤ x2 ∧ x2 < c (c this 18) (-2) then
            if (c (c this 18) x2) < 0 then
              some (0, c)
            else
              zex zc_X12_means zk_X12_means (zrun zTab d) F 108 [(2, this), (0, x1), (0, x2), (0, 0), (0, 0), (3, 0)] [] c
          else none
        else none
    else none
  else none := zf_X12_means_23 _ _ this x1 x2 x3 c
set_option maxRecDepth 100000 in
theorem zf_X12_means_45 (call : zCall) (K : zK) (this x1 x2 x3 x4 : Int) (c : zC) : zseg zc_X12_means zk_X12_means call K 1000 45 [(2, this), (0, x1), (0, x2), (0, x3), (0, x4), (3, 0)] [] c =
  if c this (-1) = 12 then
    zbnd (call 149 [this] c) (fun v1 c2 =>
      if x4 < v1 then
        if c2 this (-1) = 12 then
          if c2 this (-1) = 12 then
            zbnd (call 178 [this, x4, x2, x3] c2) (fun v3 c4 =>
              if v3 = 0 then
                if c4 this (-1) = 12 then
                  if c4 (c4 this 18) (-1) = 100 ∧ (0 : Int) ≤ x2 ∧ x2 < c4 (c4 this 18) (-2) then
                    if c4 (c2 this 18) (-1) = 100 ∧ (0 : Int) ≤ x2 ∧ x2 < c4 (c2 this 18) (-2) then
                      K 45 [(2, this), (0, x1), (0, x2), (0, x3), (0, zw (x4 + 1)), (3, 0)] [] (zup c4 (c2 this 18) x2 (c4 (c4 this 18) x2))
                    else none
                  else none
                else none
              else
                if c4 (c2 this 18) (-1) = 100 ∧ (0 : Int) ≤ x2 ∧ x2 < c4 (c2 this 18) (-2) then
                  K 45 [(2, this), (0, x1), (0, x2), (0, x3), (0, zw (x4 + 1)), (3, 0)] [] (zup c4 (c2 this 18) x2 x3)
                else none)
          else none
        else none
      else
        K 23 [(2, this), (0, x1), (0, x2), (0, zw (x3 + 1)), (3, 0), (3, 0)] [] c2)
  else none := by rfl
theorem ze_X12_means_45 (d F : Nat) (this x1 x2 x3 x4 : Int) (c : zC) : zex zc_X12_means zk_X12_means (zrun zTab d) (F + 1) 45 [(2, this), (0, x1), (0, x2), (0, x3), (0, x4), (3, 0)] [] c =
  if c this (-1) = 12 then
    zbnd (zrun zTab d 149 [this] c) (fun v1 c2 =>
      if x4 < v1 then
        if c2 this (-1) = 12 then
          if c2 this (-1) = 12 then
            zbnd (zrun zTab d 178 [this, x4, x2, x3] c2) (fun v3 c4 =>
              if v3 = 0 then
                if c4 this (-1) = 12 then
                  if c4 (c4 this 18) (-1) = 100 ∧ (0 : Int) ≤ x2 ∧ x2 < c4 (c4 this 18) (-2) then
                    if c4 (c2 this 18) (-1) = 100 ∧ (0 : Int) ≤ x2 ∧ x2 < c4 (c2 this 18) (-2) then
                      zex zc_X12_means zk_X12_means (zrun zTab d) F 45 [(2, this), (0, x1), (0, x2), (0, x3), (0, zw (x4 + 1)), (3, 0)] [] (zup c4 (c2 this 18) x2 (c4 (c4 this 18) x2))
                    else none
                  else none
                else none
              else
                if c4 (c2 this 18) (-1) = 100 ∧ (0 : Int) ≤ x2 ∧ x2 < c4 (c2 this 18) (-2) then
                  zex zc_X12_means zk_X12_means (zrun zTab d) F 45 [(2, this), (0, x1), (0, x2), (0, x3), (0, zw (x4 + 1)), (3, 0)] [] (zup c4 (c2 this 18) x2 x3)
                else none)
          else none
        else none
      else
        zex zc_X12_means zk_X12_means (zrun zTab d) F 23 [(2, this), (0, x1), (0, x2), (0, zw (x3 + 1)), (3, 0), (3, 0)] [] c2)
  else none := zf_X12_means_45 _ _ this x1 x2 x3 x4 c
set_option maxRecDepth 100000 in
theorem zf_X12_means_108 (call : zCall) (K : zK) (this x1 x2 x3 x4 : Int) (c : zC) : zseg zc_X12_means zk_X12_means call K 1000 108 [(2, this), (0, x1), (0, x2), (0, x3), (0, x4), (3, 0)] [] c =
  if c this (-1) = 12 then
    zbnd (call 149 [this] c) (fun v1 c2 =>
      if x4 < v1 then
        if c2 this (-1) = 12 then
          if c2 (c2 this 18) (-1) = 100 ∧ (0 : Int) ≤ x2 ∧ x2 < c2 (c2 this 18) (-2) then
            if c2 this (-1) = 12 then
              zbnd (call 178 [this, x4, x2, c2 (c2 this 18) x2] c2) (fun v3 c4 =>
                if v3 = 0 then
                  K 108 [(2, this), (0, x1), (0, x2), (0, x3), (0, zw (x4 + 1)), (3, 0)] [] c4
                else
                  if c4 this (-1) = 12 then
                    zbnd (call 179 [this, x1, x2, x4] c4) (fun v5 c6 =>
                      if c6 this (-1) = 12 then
                        if c6 (c6 this 20) (-1) = 100 ∧ (0 : Int) ≤ x2 ∧ x2 < c6 (c6 this 20) (-2) then
                          if v5 ≤ (c6 (c6 this 20) x2) then
                            K 108 [(2, this), (0, x1), (0, x2), (0, zw (x3 + 1)), (0, zw (x4 + 1)), (3, 0)] [] c6
                          else
                            if c6 this (-1) = 12 then
                              if c6 (c6 this 20) (-1) = 100 ∧ (0 : Int) ≤ x2 ∧ x2 < c6 (c6 this 20) (-2) then
                                if (zup c6 (c6 this 20) x2 v5) this (-1) = 12 then
                                  if (zup c6 (c6 this 20) x2 v5) ((zup c6 (c6 this 20) x2 v5) this 19) (-1) = 100 ∧ (0 : Int) ≤ x2 ∧ x2 < (zup c6 (c6 this 20) x2 v5) ((zup c6 (c6 this 20) x2 v5) this 19) (-2) then
                                    K 108 [(2, this), (0, x1), (0, x2), (0, zw (x3 + 1)), (0, zw (x4 + 1)), (3, 0)] [] (zup (zup c6 (c6 this 20) x2 v5) ((zup c6 (c6 this 20) x2 v5) this 19) x2 x4)
                                  else none
                                else none
                              else none
                            else none
                        else none
                      else none)
                  else none)
            else none
          else none
        else none
      else
        if x3 ≤ 1 then
          some (0, c2)
        else
          if c2 this (-1) = 12 then
            if c2 (c2 this 20) (-1) = 100 ∧ (0 : Int) ≤ x2 ∧ x2 < c2 (c2 this 20) (-2) then
              if (c2 (c2 this 20) x2) = 0 then
                if c2 this (-1) = 12 then
                  if c2 (c2 this 19) (-1) = 100 ∧ (0 : Int) ≤ x2 ∧ x2 < c2 (c2 this 19) (-2) then
                    some (0, zup c2 (c2 this 19) x2 (-1))
                  else none
                else none
              else
                some (0, c2)
            else none
          else none)
  else none := by rfl
theorem ze_X12_means_108 (d F : Nat) (this x1 x2 x3 x4 : Int) (c : zC) : zex zc_X12_means zk_X12_means (zrun zTab d) (F + 1) 108 [(2, this), (0, x1), (0, x2), (0, x3), (0, x4), (3, 0)] [] c =
  if c this (-1) = 12 then
    zbnd (zrun zTab d 149 [this] c) (fun v1 c2 =>
      if x4 < v1 then
        if c2 this (-1) = 12 then
          if c2 (c2 this 18) (-1) = 100 ∧ (0 : Int) ≤ x2 ∧ x2 < c2 (c2 this 18) (-2) then
            if c2 this (-1) = 12 then
              zbnd (zrun zTab d 178 [this, x4, x2, c2 (c2 this 18) x2] c2) (fun v3 c4 =>
                if v3 = 0 then
                  zex zc_X12_means zk_X12_means (zrun zTab d) F 108 [(2, this), (0, x1), (0, x2), (0, x3), (0, zw (x4 + 1)), (3, 0)] [] c4
                else
                  if c4 this (-1) = 12 then
                    zbnd (zrun zTab d 179 [this, x1, x2, x4] c4) (fun v5 c6 =>
                      if c6 this (-1) = 12 then
                        if c6 (c6 this 20) (-1) = 100 ∧ (0 : Int) ≤ x2 ∧ x2 < c6 (c6 this 20) (-2) then
                          if v5 ≤ (c6 (c6 this 20) x2) then
                            zex zc_X12_means zk_X12_means (zrun zTab d) F 108 [(2, this), (0, x1), (0, x2), (0, zw (x3 + 1)), (0, zw (x4 + 1)), (3, 0)] [] c6
                          else
                            if c6 this (-1) = 12 then
                              if c6 (c6 this 20) (-1) = 100 ∧ (0 : Int) ≤ x2 ∧ x2 < c6 (c6 this 20) (-2) then
                                if (zup c6 (c6 this 20) x2 v5) this (-1) = 12 then
                                  if (zup c6 (c6 this 20) x2 v5) ((zup c6 (c6 this 20) x2 v5) this 19) (-1) = 100 ∧ (0 : Int) ≤ x2 ∧ x2 < (zup c6 (c6 this 20) x2 v5) ((zup c6 (c6 this 20) x2 v5) this 19) (-2) then
                                    zex zc_X12_means zk_X12_means (zrun zTab d) F 108 [(2, this), (0, x1), (0, x2), (0, zw (x3 + 1)), (0, zw (x4 + 1)), (3, 0)] [] (zup (zup c6 (c6 this 20) x2 v5) ((zup c6 (c6 this 20) x2 v5) this 19) x2 x4)
                                  else none
                                else none
                              else none
                            else none
                        else none
                      else none)
                  else none)
            else none
          else none
        else none
      else
        if x3 ≤ 1 then
          some (0, c2)
        else
          if c2 this (-1) = 12 then
            if c2 (c2 this 20) (-1) = 100 ∧ (0 : Int) ≤ x2 ∧ x2 < c2 (c2 this 20) (-2) then
              if (c2 (c2 this 20) x2) = 0 then
                if c2 this (-1) = 12 then
                  if c2 (c2 this 19) (-1) = 100 ∧ (0 : Int) ≤ x2 ∧ x2 < c2 (c2 this 19) (-2) then
                    some (0, zup c2 (c2 this 19) x2 (-1))
                  else none
                else none
              else
                some (0, c2)
            else none
          else none)
  else none := zf_X12_means_108 _ _ this x1 x2 x3 x4 c
set_option maxRecDepth 100000 in
theorem zf_X12_reason (call : zCall) (K : zK) (this x1 x2 x3 x4 : Int) (c : zC) : zseg zc_X12_reason zk_X12_reason call K 1000 0 [(2, this), (0, x1), (0, x2), (0, x3), (0, x4), (3, 0)] [] c =
  if c this (-1) = 12 then
    if c (c this 18) (-1) = 100 ∧ (0 : Int) ≤ x2 ∧ x2 < c (c this 18) (-2) then
      if (c (c this 18) x2) < 0 then
        some (1, c)
      else
        if c this (-1) = 12 then
          if c (c this 19) (-1) = 100 ∧ (0 : Int) ≤ x2 ∧ x2 < c (c this 19) (-2) then
            if (c (c this 19) x2) < 0 then
              some (2, c)
            else
              if c this (-1) = 12 then
                if c (c this 19) (-1) = 100 ∧ (0 : Int) ≤ x2 ∧ x2 < c (c this 19) (-2) then
                  if c this (-1) = 12 then
                    zbnd (call 154 [this, c (c this 19) x2] c) (fun v1 c2 =>
                      if v1 = x1 then
                        some (3, c2)
                      else
                        K 41 [(2, this), (0, x1), (0, x2), (0, x3), (0, x4), (0, 0)] [] c2)
                  else none
                else none
              else none
          else none
        else none
    else none
  else none := by rfl
theorem ze_X12_reason (d : Nat) (this x1 x2 x3 x4 : Int) (c : zC) : zrun zTab (d + 1) 181 [this, x1, x2, x3, x4] c =
  if c this (-1) = 12 then
    if c (c this 18) (-1) = 100 ∧ (0 : Int) ≤ x2 ∧ x2 < c (c this 18) (-2) then
      if (c (c this 18) x2) < 0 then
        some (1, c)
      else
        if c this (-1) = 12 then
          if c (c this 19) (-1) = 100 ∧ (0 : Int) ≤ x2 ∧ x2 < c (c this 19) (-2) then
            if (c (c this 19) x2) < 0 then
              some (2, c)
            else
              if c this (-1) = 12 then
                if c (c this 19) (-1) = 100 ∧ (0 : Int) ≤ x2 ∧ x2 < c (c this 19) (-2) then
                  if c this (-1) = 12 then
                    zbnd (zrun zTab d 154 [this, c (c this 19) x2] c) (fun v1 c2 =>
                      if v1 = x1 then
                        some (3, c2)
                      else
                        zex zc_X12_reason zk_X12_reason (zrun zTab d) 19999 41 [(2, this), (0, x1), (0, x2), (0, x3), (0, x4), (0, 0)] [] c2)
                  else none
                else none
              else none
          else none
        else none
    else none
  else none := (zrun_s zt181).trans (zf_X12_reason _ _ this x1 x2 x3 x4 c)
set_option maxRecDepth 100000 in
theorem zf_X12_reason_41 (call : zCall) (K : zK) (this x1 x2 x3 x4 x5 : Int) (c : zC) : zseg zc_X12_reason zk_X12_reason call K 1000 41 [(2, this), (0, x1), (0, x2), (0, x3), (0, x4), (0, x5)] [] c =
  if x5 < x2 then
    if c this (-1) = 12 then
      if c (c this 21) (-1) = 100 ∧ (0 : Int) ≤ x5 ∧ x5 < c (c this 21) (-2) then
        if (c (c this 21) x5) = 0 then
          if c this (-1) = 12 then
            if c (c this 19) (-1) = 100 ∧ (0 : Int) ≤ x5 ∧ x5 < c (c this 19) (-2) then
              if c this (-1) = 12 then
                if c (c this 19) (-1) = 100 ∧ (0 : Int) ≤ x2 ∧ x2 < c (c this 19) (-2) then
                  if (c (c this 19) x5) = (c (c this 19) x2) then
                    if c this (-1) = 12 then
                      zbnd (call 146 [this, x1, x5] c) (fun v1 c2 =>
                        if c2 this (-1) = 12 then
                          zbnd (call 146 [this, x1, x2] c2) (fun v3 c4 =>
                            if v1 = v3 then
                              some (4, c4)
                            else
                              K 41 [(2, this), (0, x1), (0, x2), (0, x3), (0, x4), (0, zw (x5 + 1))] [] c4)
                        else none)
                    else none
                  else
                    K 41 [(2, this), (0, x1), (0, x2), (0, x3), (0, x4), (0, zw (x5 + 1))] [] c
                else none
              else none
            else none
          else none
        else
          K 41 [(2, this), (0, x1), (0, x2), (0, x3), (0, x4), (0, zw (x5 + 1))] [] c
      else none
    else none
  else
    if x3 < 0 then
      if c this (-1) = 12 then
        if (c this 22) < x4 then
          some (0, c)
        else
          some (6, c)
      else none
    else
      if c this (-1) = 12 then
        if c (c this 0) (-1) = 100 ∧ (0 : Int) ≤ 1481 ∧ 1481 < c (c this 0) (-2) then
          if (zsub (zsub x2 x3) 1) < (c (c this 0) 1481) then
            some (5, c)
          else
            if c this (-1) = 12 then
              if (c this 22) < x4 then
                some (0, c)
              else
                some (6, c)
            else none
        else none
      else none := by rfl
theorem ze_X12_reason_41 (d F : Nat) (this x1 x2 x3 x4 x5 : Int) (c : zC) : zex zc_X12_reason zk_X12_reason (zrun zTab d) (F + 1) 41 [(2, this), (0, x1), (0, x2), (0, x3), (0, x4), (0, x5)] [] c =
  if x5 < x2 then
    if c this (-1) = 12 then
      if c (c this 21) (-1) = 100 ∧ (0 : Int) ≤ x5 ∧ x5 < c (c this 21) (-2) then
        if (c (c this 21) x5) = 0 then
          if c this (-1) = 12 then
            if c (c this 19) (-1) = 100 ∧ (0 : Int) ≤ x5 ∧ x5 < c (c this 19) (-2) then
              if c this (-1) = 12 then
                if c (c this 19) (-1) = 100 ∧ (0 : Int) ≤ x2 ∧ x2 < c (c this 19) (-2) then
                  if (c (c this 19) x5) = (c (c this 19) x2) then
                    if c this (-1) = 12 then
                      zbnd (zrun zTab d 146 [this, x1, x5] c) (fun v1 c2 =>
                        if c2 this (-1) = 12 then
                          zbnd (zrun zTab d 146 [this, x1, x2] c2) (fun v3 c4 =>
                            if v1 = v3 then
                              some (4, c4)
                            else
                              zex zc_X12_reason zk_X12_reason (zrun zTab d) F 41 [(2, this), (0, x1), (0, x2), (0, x3), (0, x4), (0, zw (x5 + 1))] [] c4)
                        else none)
                    else none
                  else
                    zex zc_X12_reason zk_X12_reason (zrun zTab d) F 41 [(2, this), (0, x1), (0, x2), (0, x3), (0, x4), (0, zw (x5 + 1))] [] c
                else none
              else none
            else none
          else none
        else
          zex zc_X12_reason zk_X12_reason (zrun zTab d) F 41 [(2, this), (0, x1), (0, x2), (0, x3), (0, x4), (0, zw (x5 + 1))] [] c
      else none
    else none
  else
    if x3 < 0 then
      if c this (-1) = 12 then
        if (c this 22) < x4 then
          some (0, c)
        else
          some (6, c)
      else none
    else
      if c this (-1) = 12 then
        if c (c this 0) (-1) = 100 ∧ (0 : Int) ≤ 1481 ∧ 1481 < c (c this 0) (-2) then
          if (zsub (zsub x2 x3) 1) < (c (c this 0) 1481) then
            some (5, c)
          else
            if c this (-1) = 12 then
              if (c this 22) < x4 then
                some (0, c)
              else
                some (6, c)
            else none
        else none
      else none := zf_X12_reason_41 _ _ this x1 x2 x3 x4 x5 c
set_option maxRecDepth 100000 in
theorem zf_X12_links (call : zCall) (K : zK) (this x1 x2 x3 : Int) (c : zC) : zseg zc_X12_links zk_X12_links call K 1000 0 [(2, this), (0, x1), (0, x2), (0, x3), (3, 0), (3, 0)] [] c =
  K 3 [(2, this), (0, x1), (0, x2), (0, x3), (0, 0), (3, 0)] [] c := by rfl
theorem ze_X12_links (d : Nat) (this x1 x2 x3 : Int) (c : zC) : zrun zTab (d + 1) 182 [this, x1, x2, x3] c =
  zex zc_X12_links zk_X12_links (zrun zTab d) 19999 3 [(2, this), (0, x1), (0, x2), (0, x3), (0, 0), (3, 0)] [] c := (zrun_s zt182).trans (zf_X12_links _ _ this x1 x2 x3 c)
set_option maxRecDepth 100000 in
theorem zf_X12_links_3 (call : zCall) (K : zK) (this x1 x2 x3 x4 : Int) (c : zC) : zseg zc_X12_links zk_X12_links call K 1000 3 [(2, this), (0, x1), (0, x2), (0, x3), (0, x4), (3, 0)] [] c =
  if c this (-1) = 12 then
    zbnd (call 142 [this, x1] c) (fun v1 c2 =>
      if x4 < v1 then
        if c2 this (-1) = 12 then
          zbnd (call 177 [this, x1, x4] c2) (fun _ c4 =>
            K 3 [(2, this), (0, x1), (0, x2), (0, x3), (0, zw (x4 + 1)), (3, 0)] [] c4)
        else none
      else
        if c2 this (-1) = 12 then
          K 37 [(2, this), (0, x1), (0, x2), (0, x3), (0, (-1)), (0, 0)] [] (zup c2 this 22 0)
        else none)
  else none := by rfl
theorem ze_X12_links_3 (d F : Nat) (this x1 x2 x3 x4 : Int) (c : zC) : zex zc_X12_links zk_X12_links (zrun zTab d) (F + 1) 3 [(2, this), (0, x1), (0, x2), (0, x3), (0, x4), (3, 0)] [] c =
  if c this (-1) = 12 then
    zbnd (zrun zTab d 142 [this, x1] c) (fun v1 c2 =>
      if x4 < v1 then
        if c2 this (-1) = 12 then
          zbnd (zrun zTab d 177 [this, x1, x4] c2) (fun _ c4 =>
            zex zc_X12_links zk_X12_links (zrun zTab d) F 3 [(2, this), (0, x1), (0, x2), (0, x3), (0, zw (x4 + 1)), (3, 0)] [] c4)
        else none
      else
        if c2 this (-1) = 12 then
          zex zc_X12_links zk_X12_links (zrun zTab d) F 37 [(2, this), (0, x1), (0, x2), (0, x3), (0, (-1)), (0, 0)] [] (zup c2 this 22 0)
        else none)
  else none := zf_X12_links_3 _ _ this x1 x2 x3 x4 c
