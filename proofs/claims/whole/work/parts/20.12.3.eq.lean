set_option maxRecDepth 100000 in
theorem zf_X12_links_37 (call : zCall) (K : zK) (this x1 x2 x3 x4 x5 : Int) (c : zC) : zseg zc_X12_links zk_X12_links call K 1000 37 [(2, this), (0, x1), (0, x2), (0, x3), (0, x4), (0, x5)] [] c =
  if c this (-1) = 12 then
    zbnd (call 142 [this, x1] c) (fun v1 c2 =>
      if x5 < v1 then
        if c2 this (-1) = 12 then
          zbnd (call 180 [this, x1, x5] c2) (fun _ c4 =>
            if c4 this (-1) = 12 then
              if x5 = x2 then
                if c4 (c4 this 21) (-1) = 100 ∧ (0 : Int) ≤ x5 ∧ x5 < c4 (c4 this 21) (-2) then
                  if (zup c4 (c4 this 21) x5 7) this (-1) = 12 then
                    if (zup c4 (c4 this 21) x5 7) ((zup c4 (c4 this 21) x5 7) this 21) (-1) = 100 ∧ (0 : Int) ≤ x5 ∧ x5 < (zup c4 (c4 this 21) x5 7) ((zup c4 (c4 this 21) x5 7) this 21) (-2) then
                      if ((zup c4 (c4 this 21) x5 7) ((zup c4 (c4 this 21) x5 7) this 21) x5) = 0 then
                        if (zup c4 (c4 this 21) x5 7) this (-1) = 12 then
                          if (zup c4 (c4 this 21) x5 7) this (-1) = 12 then
                            K 37 [(2, this), (0, x1), (0, x2), (0, x3), (0, x5), (0, zw (x5 + 1))] [] (zup (zup c4 (c4 this 21) x5 7) this 22 (zadd ((zup c4 (c4 this 21) x5 7) this 22) 1))
                          else none
                        else none
                      else
                        K 37 [(2, this), (0, x1), (0, x2), (0, x3), (0, x4), (0, zw (x5 + 1))] [] (zup c4 (c4 this 21) x5 7)
                    else none
                  else none
                else none
              else
                if c4 this (-1) = 12 then
                  zbnd (call 181 [this, x1, x5, x4, x3] c4) (fun v5 c6 =>
                    if c6 (c4 this 21) (-1) = 100 ∧ (0 : Int) ≤ x5 ∧ x5 < c6 (c4 this 21) (-2) then
                      if (zup c6 (c4 this 21) x5 v5) this (-1) = 12 then
                        if (zup c6 (c4 this 21) x5 v5) ((zup c6 (c4 this 21) x5 v5) this 21) (-1) = 100 ∧ (0 : Int) ≤ x5 ∧ x5 < (zup c6 (c4 this 21) x5 v5) ((zup c6 (c4 this 21) x5 v5) this 21) (-2) then
                          if ((zup c6 (c4 this 21) x5 v5) ((zup c6 (c4 this 21) x5 v5) this 21) x5) = 0 then
                            if (zup c6 (c4 this 21) x5 v5) this (-1) = 12 then
                              if (zup c6 (c4 this 21) x5 v5) this (-1) = 12 then
                                K 37 [(2, this), (0, x1), (0, x2), (0, x3), (0, x5), (0, zw (x5 + 1))] [] (zup (zup c6 (c4 this 21) x5 v5) this 22 (zadd ((zup c6 (c4 this 21) x5 v5) this 22) 1))
                              else none
                            else none
                          else
                            K 37 [(2, this), (0, x1), (0, x2), (0, x3), (0, x4), (0, zw (x5 + 1))] [] (zup c6 (c4 this 21) x5 v5)
                        else none
                      else none
                    else none)
                else none
            else none)
        else none
      else
        some (0, c2))
  else none := by rfl
theorem ze_X12_links_37 (d F : Nat) (this x1 x2 x3 x4 x5 : Int) (c : zC) : zex zc_X12_links zk_X12_links (zrun zTab d) (F + 1) 37 [(2, this), (0, x1), (0, x2), (0, x3), (0, x4), (0, x5)] [] c =
  if c this (-1) = 12 then
    zbnd (zrun zTab d 142 [this, x1] c) (fun v1 c2 =>
      if x5 < v1 then
        if c2 this (-1) = 12 then
          zbnd (zrun zTab d 180 [this, x1, x5] c2) (fun _ c4 =>
            if c4 this (-1) = 12 then
              if x5 = x2 then
                if c4 (c4 this 21) (-1) = 100 ∧ (0 : Int) ≤ x5 ∧ x5 < c4 (c4 this 21) (-2) then
                  if (zup c4 (c4 this 21) x5 7) this (-1) = 12 then
                    if (zup c4 (c4 this 21) x5 7) ((zup c4 (c4 this 21) x5 7) this 21) (-1) = 100 ∧ (0 : Int) ≤ x5 ∧ x5 < (zup c4 (c4 this 21) x5 7) ((zup c4 (c4 this 21) x5 7) this 21) (-2) then
                      if ((zup c4 (c4 this 21) x5 7) ((zup c4 (c4 this 21) x5 7) this 21) x5) = 0 then
                        if (zup c4 (c4 this 21) x5 7) this (-1) = 12 then
                          if (zup c4 (c4 this 21) x5 7) this (-1) = 12 then
                            zex zc_X12_links zk_X12_links (zrun zTab d) F 37 [(2, this), (0, x1), (0, x2), (0, x3), (0, x5), (0, zw (x5 + 1))] [] (zup (zup c4 (c4 this 21) x5 7) this 22 (zadd ((zup c4 (c4 this 21) x5 7) this 22) 1))
                          else none
                        else none
                      else
                        zex zc_X12_links zk_X12_links (zrun zTab d) F 37 [(2, this), (0, x1), (0, x2), (0, x3), (0, x4), (0, zw (x5 + 1))] [] (zup c4 (c4 this 21) x5 7)
                    else none
                  else none
                else none
              else
                if c4 this (-1) = 12 then
                  zbnd (zrun zTab d 181 [this, x1, x5, x4, x3] c4) (fun v5 c6 =>
                    if c6 (c4 this 21) (-1) = 100 ∧ (0 : Int) ≤ x5 ∧ x5 < c6 (c4 this 21) (-2) then
                      if (zup c6 (c4 this 21) x5 v5) this (-1) = 12 then
                        if (zup c6 (c4 this 21) x5 v5) ((zup c6 (c4 this 21) x5 v5) this 21) (-1) = 100 ∧ (0 : Int) ≤ x5 ∧ x5 < (zup c6 (c4 this 21) x5 v5) ((zup c6 (c4 this 21) x5 v5) this 21) (-2) then
                          if ((zup c6 (c4 this 21) x5 v5) ((zup c6 (c4 this 21) x5 v5) this 21) x5) = 0 then
                            if (zup c6 (c4 this 21) x5 v5) this (-1) = 12 then
                              if (zup c6 (c4 this 21) x5 v5) this (-1) = 12 then
                                zex zc_X12_links zk_X12_links (zrun zTab d) F 37 [(2, this), (0, x1), (0, x2), (0, x3), (0, x5), (0, zw (x5 + 1))] [] (zup (zup c6 (c4 this 21) x5 v5) this 22 (zadd ((zup c6 (c4 this 21) x5 v5) this 22) 1))
                              else none
                            else none
                          else
                            zex zc_X12_links zk_X12_links (zrun zTab d) F 37 [(2, this), (0, x1), (0, x2), (0, x3), (0, x4), (0, zw (x5 + 1))] [] (zup c6 (c4 this 21) x5 v5)
                        else none
                      else none
                    else none)
                else none
            else none)
        else none
      else
        some (0, c2))
  else none := zf_X12_links_37 _ _ this x1 x2 x3 x4 x5 c
set_option maxRecDepth 100000 in
theorem zf_X12_links_ (call : zCall) (K : zK) (this x1 : Int) (c : zC) : zseg zc_X12_links_ zk_X12_links_ call K 1000 0 [(2, this), (0, x1)] [] c =
  if c this (-1) = 12 then
    zbnd (call 143 [this, x1] c) (fun v1 c2 =>
      if c2 this (-1) = 12 then
        zbnd (call 182 [this, x1, (-1), v1] c2) (fun _ c4 =>
          some (0, c4))
      else none)
  else none := by rfl
theorem ze_X12_links_ (d : Nat) (this x1 : Int) (c : zC) : zrun zTab (d + 1) 183 [this, x1] c =
  if c this (-1) = 12 then
    zbnd (zrun zTab d 143 [this, x1] c) (fun v1 c2 =>
      if c2 this (-1) = 12 then
        zbnd (zrun zTab d 182 [this, x1, (-1), v1] c2) (fun _ c4 =>
          some (0, c4))
      else none)
  else none := (zrun_s zt183).trans (zf_X12_links_ _ _ this x1 c)
set_option maxRecDepth 100000 in
theorem zf_X12_linkOf (call : zCall) (K : zK) (this x1 : Int) (c : zC) : zseg zc_X12_linkOf zk_X12_linkOf call K 1000 0 [(2, this), (0, x1)] [] c =
  if c this (-1) = 12 then
    if c (c this 21) (-1) = 100 ∧ (0 : Int) ≤ x1 ∧ x1 < c (c this 21) (-2) then
      if (c (c this 21) x1) = 0 then
        if c this (-1) = 12 then
          if c (c this 19) (-1) = 100 ∧ (0 : Int) ≤ x1 ∧ x1 < c (c this 19) (-2) then
            some (c (c this 19) x1, c)
          else none
        else none
      else
        some ((-1), c)
    else none
  else none := by rfl
theorem ze_X12_linkOf (d : Nat) (this x1 : Int) (c : zC) : zrun zTab (d + 1) 184 [this, x1] c =
  if c this (-1) = 12 then
    if c (c this 21) (-1) = 100 ∧ (0 : Int) ≤ x1 ∧ x1 < c (c this 21) (-2) then
      if (c (c this 21) x1) = 0 then
        if c this (-1) = 12 then
          if c (c this 19) (-1) = 100 ∧ (0 : Int) ≤ x1 ∧ x1 < c (c this 19) (-2) then
            some (c (c this 19) x1, c)
          else none
        else none
      else
        some ((-1), c)
    else none
  else none := (zrun_s zt184).trans (zf_X12_linkOf _ _ this x1 c)
set_option maxRecDepth 100000 in
theorem zf_X12_begins_ (call : zCall) (K : zK) (this x1 : Int) (c : zC) : zseg zc_X12_begins_ zk_X12_begins_ call K 1000 0 [(2, this), (0, x1), (3, 0)] [] c =
  if c this (-1) = 12 then
    zbnd (call 183 [this, x1] c) (fun _ c2 =>
      K 7 [(2, this), (0, x1), (0, 0)] [] c2)
  else none := by rfl
theorem ze_X12_begins_ (d : Nat) (this x1 : Int) (c : zC) : zrun zTab (d + 1) 185 [this, x1] c =
  if c this (-1) = 12 then
    zbnd (zrun zTab d 183 [this, x1] c) (fun _ c2 =>
      zex zc_X12_begins_ zk_X12_begins_ (zrun zTab d) 19999 7 [(2, this), (0, x1), (0, 0)] [] c2)
  else none := (zrun_s zt185).trans (zf_X12_begins_ _ _ this x1 c)
set_option maxRecDepth 100000 in
theorem zf_X12_begins__7 (call : zCall) (K : zK) (this x1 x2 : Int) (c : zC) : zseg zc_X12_begins_ zk_X12_begins_ call K 1000 7 [(2, this), (0, x1), (0, x2)] [] c =
  if c this (-1) = 12 then
    zbnd (call 142 [this, x1] c) (fun v1 c2 =>
      if x2 < v1 then
        if c2 this (-1) = 12 then
          if c2 this (-1) = 12 then
            zbnd (call 184 [this, x2] c2) (fun v3 c4 =>
              if c4 (c2 this 23) (-1) = 100 ∧ (0 : Int) ≤ x2 ∧ x2 < c4 (c2 this 23) (-2) then
                K 7 [(2, this), (0, x1), (0, zw (x2 + 1))] [] (zup c4 (c2 this 23) x2 v3)
              else none)
          else none
        else none
      else
        if c2 this (-1) = 12 then
          zbnd (call 142 [this, x1] c2) (fun v5 c6 =>
            some (v5, c6))
        else none)
  else none := by rfl
theorem ze_X12_begins__7 (d F : Nat) (this x1 x2 : Int) (c : zC) : zex zc_X12_begins_ zk_X12_begins_ (zrun zTab d) (F + 1) 7 [(2, this), (0, x1), (0, x2)] [] c =
  if c this (-1) = 12 then
    zbnd (zrun zTab d 142 [this, x1] c) (fun v1 c2 =>
      if x2 < v1 then
        if c2 this (-1) = 12 then
          if c2 this (-1) = 12 then
            zbnd (zrun zTab d 184 [this, x2] c2) (fun v3 c4 =>
              if c4 (c2 this 23) (-1) = 100 ∧ (0 : Int) ≤ x2 ∧ x2 < c4 (c2 this 23) (-2) then
                zex zc_X12_begins_ zk_X12_begins_ (zrun zTab d) F 7 [(2, this), (0, x1), (0, zw (x2 + 1))] [] (zup c4 (c2 this 23) x2 v3)
              else none)
          else none
        else none
      else
        if c2 this (-1) = 12 then
          zbnd (zrun zTab d 142 [this, x1] c2) (fun v5 c6 =>
            some (v5, c6))
        else none)
  else none := zf_X12_begins__7 _ _ this x1 x2 c
set_option maxRecDepth 100000 in
theorem zf_X12_tells (call : zCall) (K : zK) (this x1 x2 x3 x4 x5 : Int) (c : zC) : zseg zc_X12_tells zk_X12_tells call K 1000 0 [(2, this), (0, x1), (0, x2), (0, x3), (0, x4), (0, x5), (3, 0), (3, 0), (3, 0)] [] c =
  if c this (-1) = 12 then
    zbnd (call 183 [this, x1] c) (fun _ c2 =>
      if c2 this (-1) = 12 then
        if (zup c2 this 24 1) this (-1) = 12 then
          if (zup (zup c2 this 24 1) this 25 0) this (-1) = 12 then
            if (zup (zup (zup c2 this 24 1) this 25 0) this 26 0) this (-1) = 12 then
              if x5 = 0 then
                if x4 = 0 then
                  K 52 [(2, this), (0, x1), (0, x2), (0, x3), (0, x4), (0, x5), (0, zsub 0 0), (0, 0), (3, 0)] [] (zup (zup (zup (zup c2 this 24 1) this 25 0) this 26 0) this 27 (-5))
                else
                  K 52 [(2, this), (0, x1), (0, x2), (0, x3), (0, x4), (0, x5), (0, zsub 0 1), (0, 0), (3, 0)] [] (zup (zup (zup (zup c2 this 24 1) this 25 0) this 26 0) this 27 (-5))
              else
                if x4 = 0 then
                  K 52 [(2, this), (0, x1), (0, x2), (0, x3), (0, x4), (0, x5), (0, zsub 1 0), (0, 0), (3, 0)] [] (zup (zup (zup (zup c2 this 24 1) this 25 0) this 26 0) this 27 (-5))
                else
                  K 52 [(2, this), (0, x1), (0, x2), (0, x3), (0, x4), (0, x5), (0, zsub 1 1), (0, 0), (3, 0)] [] (zup (zup (zup (zup c2 this 24 1) this 25 0) this 26 0) this 27 (-5))
            else none
          else none
        else none
      else none)
  else none := by rfl
theorem ze_X12_tells (d : Nat) (this x1 x2 x3 x4 x5 : Int) (c : zC) : zrun zTab (d + 1) 186 [this, x1, x2, x3, x4, x5] c =
  if c this (-1) = 12 then
    zbnd (zrun zTab d 183 [this, x1] c) (fun _ c2 =>
      if c2 this (-1) = 12 then
        if (zup c2 this 24 1) this (-1) = 12 then
          if (zup (zup c2 this 24 1) this 25 0) this (-1) = 12 then
            if (zup (zup (zup c2 this 24 1) this 25 0) this 26 0) this (-1) = 12 then
              if x5 = 0 then
                if x4 = 0 then
                  zex zc_X12_tells zk_X12_tells (zrun zTab d) 19999 52 [(2, this), (0, x1), (0, x2), (0, x3), (0, x4), (0, x5), (0, zsub 0 0), (0, 0), (3, 0)] [] (zup (zup (zup (zup c2 this 24 1) this 25 0) this 26 0) this 27 (-5))
                else
                  zex zc_X12_tells zk_X12_tells (zrun zTab d) 19999 52 [(2, this), (0, x1), (0, x2), (0, x3), (0, x4), (0, x5), (0, zsub 0 1), (0, 0), (3, 0)] [] (zup (zup (zup (zup c2 this 24 1) this 25 0) this 26 0) this 27 (-5))
              else
                if x4 = 0 then
                  zex zc_X12_tells zk_X12_tells (zrun zTab d) 19999 52 [(2, this), (0, x1), (0, x2), (0, x3), (0, x4), (0, x5), (0, zsub 1 0), (0, 0), (3, 0)] [] (zup (zup (zup (zup c2 this 24 1) this 25 0) this 26 0) this 27 (-5))
                else
                  zex zc_X12_tells zk_X12_tells (zrun zTab d) 19999 52 [(2, this), (0, x1), (0, x2), (0, x3), (0, x4), (0, x5), (0, zsub 1 1), (0, 0), (3, 0)] [] (zup (zup (zup (zup c2 this 24 1) this 25 0) this 26 0) this 27 (-5))
            else none
          else none
        else none
      else none)
  else none := (zrun_s zt186).trans (zf_X12_tells _ _ this x1 x2 x3 x4 x5 c)
set_option maxRecDepth 100000 in
theorem zf_X12_tells_52 (call : zCall) (K : zK) (this x1 x2 x3 x4 x5 x6 x7 : Int) (c : zC) : zseg zc_X12_tells zk_X12_tells call K 1000 52 [(2, this), (0, x1), (0, x2), (0, x3), (0, x4), (0, x5), (0, x6), (0, x7), (3, 0)] [] c =
  if c this (-1) = 12 then
    zbnd (call 142 [this, x1] c) (fun v1 c2 =>
      if x7 < v1 then
        if x7 < x3 then
          if c2 this (-1) = 12 then
            zbnd (call 184 [this, x7] c2) (fun v3 c4 =>
              if v3 < 0 then
                K 52 [(2, this), (0, x1), (0, x2), (0, x3), (0, x4), (0, x5), (0, x6), (0, zw (x7 + 1)), (3, 0)] [] c4
              else
                if x7 < 0 then
                  K 128 [(2, this), (0, x1), (0, x2), (0, x3), (0, x4), (0, x5), (0, x6), (0, x7), (3, 0)] [] c4
                else
                  if c4 this (-1) = 12 then
                    if c4 (c4 this 23) (-1) = 100 ∧ (0 : Int) ≤ x7 ∧ x7 < c4 (c4 this 23) (-2) then
                      if c4 this (-1) = 12 then
                        zbnd (call 184 [this, x7] c4) (fun v5 c6 =>
                          if (c4 (c4 this 23) x7) = v5 then
                            K 52 [(2, this), (0, x1), (0, x2), (0, x3), (0, x4), (0, x5), (0, x6), (0, zw (x7 + 1)), (3, 0)] [] c6
                          else
                            K 128 [(2, this), (0, x1), (0, x2), (0, x3), (0, x4), (0, x5), (0, x6), (0, x7), (3, 0)] [] c6)
                      else none
                    else none
                  else none)
          else none
        else
          if x7 = x3 then
            if x5 = 0 then
              K 88 [(2, this), (0, x1), (0, x2), (0, x3), (0, x4), (0, x5), (0, x6), (0, x7), (3, 0)] [] c2
            else
              if c2 this (-1) = 12 then
                zbnd (call 184 [this, x7] c2) (fun v7 c8 =>
                  if v7 < 0 then
                    K 52 [(2, this), (0, x1), (0, x2), (0, x3), (0, x4), (0, x5), (0, x6), (0, zw (x7 + 1)), (3, 0)] [] c8
                  else
                    K 128 [(2, this), (0, x1), (0, x2), (0, x3), (0, x4), (0, x5), (0, x6), (0, x7), (3, 0)] [] c8)
              else none
          else
            K 88 [(2, this), (0, x1), (0, x2), (0, x3), (0, x4), (0, x5), (0, x6), (0, x7), (3, 0)] [] c2
      else
        K 169 [(2, this), (3, 0), (0, x2), (0, x3), (0, x4), (3, 0), (0, x6), (0, 0), (3, 0)] [] c2)
  else none := by rfl
theorem ze_X12_tells_52 (d F : Nat) (this x1 x2 x3 x4 x5 x6 x7 : Int) (c : zC) : zex zc_X12_tells zk_X12_tells (zrun zTab d) (F + 1) 52 [(2, this), (0, x1), (0, x2), (0, x3), (0, x4), (0, x5), (0, x6), (0, x7), (3, 0)] [] c =
  if c this (-1) = 12 then
    zbnd (zrun zTab d 142 [this, x1] c) (fun v1 c2 =>
      if x7 < v1 then
        if x7 < x3 then
          if c2 this (-1) = 12 then
            zbnd (zrun zTab d 184 [this, x7] c2) (fun v3 c4 =>
              if v3 < 0 then
                zex zc_X12_tells zk_X12_tells (zrun zTab d) F 52 [(2, this), (0, x1), (0, x2), (0, x3), (0, x4), (0, x5), (0, x6), (0, zw (x7 + 1)), (3, 0)] [] c4
              else
                if x7 < 0 then
                  zex zc_X12_tells zk_X12_tells (zrun zTab d) F 128 [(2, this), (0, x1), (0, x2), (0, x3), (0, x4), (0, x5), (0, x6), (0, x7), (3, 0)] [] c4
                else
                  if c4 this (-1) = 12 then
                    if c4 (c4 this 23) (-1) = 100 ∧ (0 : Int) ≤ x7 ∧ x7 < c4 (c4 this 23) (-2) then
                      if c4 this (-1) = 12 then
                        zbnd (zrun zTab d 184 [this, x7] c4) (fun v5 c6 =>
                          if (c4 (c4 this 23) x7) = v5 then
                            zex zc_X12_tells zk_X12_tells (zrun zTab d) F 52 [(2, this), (0, x1), (0, x2), (0, x3), (0, x4), (0, x5), (0, x6), (0, zw (x7 + 1)), (3, 0)] [] c6
                          else
                            zex zc_X12_tells zk_X12_tells (zrun zTab d) F 128 [(2, this), (0, x1), (0, x2), (0, x3), (0, x4), (0, x5), (0, x6), (0, x7), (3, 0)] [] c6)
                      else none
                    else none
                  else none)
          else none
        else
          if x7 = x3 then
            if x5 = 0 then
              zex zc_X12_tells zk_X12_tells (zrun zTab d) F 88 [(2, this), (0, x1), (0, x2), (0, x3), (0, x4), (0, x5), (0, x6), (0, x7), (3, 0)] [] c2
            else
              if c2 this (-1) = 12 then
                zbnd (zrun zTab d 184 [this, x7] c2) (fun v7 c8 =>
                  if v7 < 0 then
                    zex zc_X12_tells zk_X12_tells (zrun zTab d) F 52 [(2, this), (0, x1), (0, x2), (0, x3), (0, x4), (0, x5), (0, x6), (0, zw (x7 + 1)), (3, 0)] [] c8
                  else
                    zex zc_X12_tells zk_X12_tells (zrun zTab d) F 128 [(2, this), (0, x1), (0, x2), (0, x3), (0, x4), (0, x5), (0, x6), (0, x7), (3, 0)] [] c8)
              else none
          else
            zex zc_X12_tells zk_X12_tells (zrun zTab d) F 88 [(2, this), (0, x1), (0, x2), (0, x3), (0, x4), (0, x5), (0, x6), (0, x7), (3, 0)] [] c2
      else
        zex zc_X12_tells zk_X12_tells (zrun zTab d) F 169 [(2, this), (3, 0), (0, x2), (0, x3), (0, x4), (3, 0), (0, x6), (0, 0), (3, 0)] [] c2)
  else none := zf_X12_tells_52 _ _ this x1 x2 x3 x4 x5 x6 x7 c
set_option maxRecDepth 100000 in
theorem zf_X12_tells_88 (call : zCall) (K : zK) (this x1 x2 x3 x4 x5 x6 x7 : Int) (c : zC) : zseg zc_X12_tells zk_X12_tells call K 1000 88 [(2, this), (0, x1), (0, x2), (0, x3), (0, x4), (0, x5), (0, x6), (0, x7), (3, 0)] [] c =
  if c this (-1) = 12 then
    zbnd (call 184 [this, x7] c) (fun v1 c2 =>
      if v1 < 0 then
        K 52 [(2, this), (0, x1), (0, x2), (0, x3), (0, x4), (0, x5), (0, x6), (0, zw (x7 + 1)), (3, 0)] [] c2
      else
        if (zsub x7 x6) < 0 then
          K 128 [(2, this), (0, x1), (0, x2), (0, x3), (0, x4), (0, x5), (0, x6), (0, x7), (3, 0)] [] c2
        else
          if c2 this (-1) = 12 then
            if c2 (c2 this 23) (-1) = 100 ∧ (0 : Int) ≤ (zsub x7 x6) ∧ (zsub x7 x6) < c2 (c2 this 23) (-2) then
              if c2 this (-1) = 12 then
                zbnd (call 184 [this, x7] c2) (fun v3 c4 =>
                  if (c2 (c2 this 23) (zsub x7 x6)) = v3 then
                    K 52 [(2, this), (0, x1), (0, x2), (0, x3), (0, x4), (0, x5), (0, x6), (0, zw (x7 + 1)), (3, 0)] [] c4
                  else
                    K 128 [(2, this), (0, x1), (0, x2), (0, x3), (0, x4), (0, x5), (0, x6), (0, x7), (3, 0)] [] c4)
              else none
            else none
          else none)
  else none := by rfl
theorem ze_X12_tells_88 (d F : Nat) (this x1 x2 x3 x4 x5 x6 x7 : Int) (c : zC) : zex zc_X12_tells zk_X12_tells (zrun zTab d) (F + 1) 88 [(2, this), (0, x1), (0, x2), (0, x3), (0, x4), (0, x5), (0, x6), (0, x7), (3, 0)] [] c =
  if c this (-1) = 12 then
    zbnd (zrun zTab d 184 [this, x7] c) (fun v1 c2 =>
      if v1 < 0 then
        zex zc_X12_tells zk_X12_tells (zrun zTab d) F 52 [(2, this), (0, x1), (0, x2), (0, x3), (0, x4), (0, x5), (0, x6), (0, zw (x7 + 1)), (3, 0)] [] c2
      else
        if (zsub x7 x6) < 0 then
          zex zc_X12_tells zk_X12_tells (zrun zTab d) F 128 [(2, this), (0, x1), (0, x2), (0, x3), (0, x4), (0, x5), (0, x6), (0, x7), (3, 0)] [] c2
        else
          if c2 this (-1) = 12 then
            if c2 (c2 this 23) (-1) = 100 ∧ (0 : Int) ≤ (zsub x7 x6) ∧ (zsub x7 x6) < c2 (c2 this 23) (-2) then
              if c2 this (-1) = 12 then
                zbnd (zrun zTab d 184 [this, x7] c2) (fun v3 c4 =>
                  if (c2 (c2 this 23) (zsub x7 x6)) = v3 then
                    zex zc_X12_tells zk_X12_tells (zrun zTab d) F 52 [(2, this), (0, x1), (0, x2), (0, x3), (0, x4), (0, x5), (0, x6), (0, zw (x7 + 1)), (3, 0)] [] c4
                  else
                    zex zc_X12_tells zk_X12_tells (zrun zTab d) F 128 [(2, this), (0, x1), (0, x2), (0, x3), (0, x4), (0, x5), (0, x6), (0, x7), (3, 0)] [] c4)
              else none
            else none
          else none)
  else none := zf_X12_tells_88 _ _ this x1 x2 x3 x4 x5 x6 x7 c
set_option maxRecDepth 100000 in
theorem zf_X12_tells_128 (call : zCall) (K : zK) (this x1 x2 x3 x4 x5 x6 x7 : Int) (c : zC) : zseg zc_X12_tells zk_X12_tells call K 1000 128 [(2, this), (0, x1), (0, x2), (0, x3), (0, x4), (0, x5), (0, x6), (0, x7), (3, 0)] [] c =
  if c this (-1) = 12 then
    if c this (-1) = 12 then
      if (zup c this 25 (zadd (c this 25) 1)) this (-1) = 12 then
        if ((zup c this 25 (zadd (c this 25) 1)) this 27) = (-5) then
          if (zup c this 25 (zadd (c this 25) 1)) this (-1) = 12 then
            K 52 [(2, this), (0, x1), (0, x2), (0, x3), (0, x4), (0, x5), (0, x6), (0, zw (x7 + 1)), (3, 0)] [] (zup (zup c this 25 (zadd (c this 25) 1)) this 27 x7)
          else none
        else
          if (zup c this 25 (zadd (c this 25) 1)) this (-1) = 12 then
            if (zup c this 25 (zadd (c this 25) 1)) this (-1) = 12 then
              K 52 [(2, this), (0, x1), (0, x2), (0, x3), (0, x4), (0, x5), (0, x6), (0, zw (x7 + 1)), (3, 0)] [] (zup (zup c this 25 (zadd (c this 25) 1)) this 27 ((zup c this 25 (zadd (c this 25) 1)) this 27))
            else none
          else none
      else none
    else none
  else none := by rfl
theorem ze_X12_tells_128 (d F : Nat) (this x1 x2 x3 x4 x5 x6 x7 : Int) (c : zC) : zex zc_X12_tells zk_X12_tells (zrun zTab d) (F + 1) 128 [(2, this), (0, x1), (0, x2), (0, x3), (0, x4), (0, x5), (0, x6), (0, x7), (3, 0)] [] c =
  if c this (-1) = 12 then
    if c this (-1) = 12 then
      if (zup c this 25 (zadd (c this 25) 1)) this (-1) = 12 then
        if ((zup c this 25 (zadd (c this 25) 1)) this 27) = (-5) then
          if (zup c this 25 (zadd (c this 25) 1)) this (-1) = 12 then
            zex zc_X12_tells zk_X12_tells (zrun zTab d) F 52 [(2, this), (0, x1), (0, x2), (0, x3), (0, x4), (0, x5), (0, x6), (0, zw (x7 + 1)), (3, 0)] [] (zup (zup c this 25 (zadd (c this 25) 1)) this 27 x7)
          else none
        else
          if (zup c this 25 (zadd (c this 25) 1)) this (-1) = 12 then
            if (zup c this 25 (zadd (c this 25) 1)) this (-1) = 12 then
              zex zc_X12_tells zk_X12_tells (zrun zTab d) F 52 [(2, this), (0, x1), (0, x2), (0, x3), (0, x4), (0, x5), (0, x6), (0, zw (x7 + 1)), (3, 0)] [] (zup (zup c this 25 (zadd (c this 25) 1)) this 27 ((zup c this 25 (zadd (c this 25) 1)) this 27))
            else none
          else none
      else none
    else none
  else none := zf_X12_tells_128 _ _ this x1 x2 x3 x4 x5 x6 x7 c
set_option maxRecDepth 100000 in
theorem zf_X12_tells_169 (call : zCall) (K : zK) (this x2 x3 x4 x6 x7 : Int) (c : zC) : zseg zc_X12_tells zk_X12_tells call K 1000 169 [(2, this), (3, 0), (0, x2), (0, x3), (0, x4), (3, 0), (0, x6), (0, x7), (3, 0)] [] c =
  if x7 < x2 then
    if x7 < x3 then
      K 206 [(2, this), (3, 0), (0, x2), (0, x3), (0, x4), (3, 0), (0, x6), (0, x7), (3, 0)] [(0, x7)] c
    else
      if x7 = x3 then
        if x4 = 0 then
          K 206 [(2, this), (3, 0), (0, x2), (0, x3), (0, x4), (3, 0), (0, x6), (0, x7), (3, 0)] [(0, zadd x7 x6)] c
        else
          K 206 [(2, this), (3, 0), (0, x2), (0, x3), (0, x4), (3, 0), (0, x6), (0, x7), (3, 0)] [(0, (-1))] c
      else
        K 206 [(2, this), (3, 0), (0, x2), (0, x3), (0, x4), (3, 0), (0, x6), (0, x7), (3, 0)] [(0, zadd x7 x6)] c
  else
    some (0, c) := by rfl
theorem ze_X12_tells_169 (d F : Nat) (this x2 x3 x4 x6 x7 : Int) (c : zC) : zex zc_X12_tells zk_X12_tells (zrun zTab d) (F + 1) 169 [(2, this), (3, 0), (0, x2), (0, x3), (0, x4), (3, 0), (0, x6), (0, x7), (3, 0)] [] c =
  if x7 < x2 then
    if x7 < x3 then
      zex zc_X12_tells zk_X12_tells (zrun zTab d) F 206 [(2, this), (3, 0), (0, x2), (0, x3), (0, x4), (3, 0), (0, x6), (0, x7), (3, 0)] [(0, x7)] c
    else
      if x7 = x3 then
        if x4 = 0 then
          zex zc_X12_tells zk_X12_tells (zrun zTab d) F 206 [(2, this), (3, 0), (0, x2), (0, x3), (0, x4), (3, 0), (0, x6), (0, x7), (3, 0)] [(0, zadd x7 x6)] c
        else
          zex zc_X12_tells zk_X12_tells (zrun zTab d) F 206 [(2, this), (3, 0), (0, x2), (0, x3), (0, x4), (3, 0), (0, x6), (0, x7), (3, 0)] [(0, (-1))] c
      else
        zex zc_X12_tells zk_X12_tells (zrun zTab d) F 206 [(2, this), (3, 0), (0, x2), (0, x3), (0, x4), (3, 0), (0, x6), (0, x7), (3, 0)] [(0, zadd x7 x6)] c
  else
    some (0, c) := zf_X12_tells_169 _ _ this x2 x3 x4 x6 x7 c
set_option maxRecDepth 100000 in
theorem zf_X12_tells_206 (call : zCall) (K : zK) (this x2 x3 x4 x6 x7 s0 : Int) (c : zC) : zseg zc_X12_tells zk_X12_tells call K 1000 206 [(2, this), (3, 0), (0, x2), (0, x3), (0, x4), (3, 0), (0, x6), (0, x7), (3, 0)] [(0, s0)] c =
  if c this (-1) = 12 then
    if c this (-1) = 12 then
      if c (c this 23) (-1) = 100 ∧ (0 : Int) ≤ x7 ∧ x7 < c (c this 23) (-2) then
        if (c (c this 23) x7) < 0 then
          if c this (-1) = 12 then
            K 169 [(2, this), (3, 0), (0, x2), (0, x3), (0, x4), (3, 0), (0, x6), (0, zw (x7 + 1)), (3, 0)] [] (zup c this 26 (zadd (c this 26) 0))
          else none
        else
          if s0 < 0 then
            if c this (-1) = 12 then
              K 169 [(2, this), (3, 0), (0, x2), (0, x3), (0, x4), (3, 0), (0, x6), (0, zw (x7 + 1)), (3, 0)] [] (zup c this 26 (zadd (c this 26) 1))
            else none
          else
            if c this (-1) = 12 then
              zbnd (call 184 [this, s0] c) (fun v1 c2 =>
                if c2 this (-1) = 12 then
                  if c2 (c2 this 23) (-1) = 100 ∧ (0 : Int) ≤ x7 ∧ x7 < c2 (c2 this 23) (-2) then
                    if v1 = (c2 (c2 this 23) x7) then
                      if c2 this (-1) = 12 then
                        K 169 [(2, this), (3, 0), (0, x2), (0, x3), (0, x4), (3, 0), (0, x6), (0, zw (x7 + 1)), (3, 0)] [] (zup c2 this 26 (zadd (c this 26) 0))
                      else none
                    else
                      if c2 this (-1) = 12 then
                        K 169 [(2, this), (3, 0), (0, x2), (0, x3), (0, x4), (3, 0), (0, x6), (0, zw (x7 + 1)), (3, 0)] [] (zup c2 this 26 (zadd (c this 26) 1))
                      else none
                  else none
                else none)
            else none
      else none
    else none
  else none := by rfl
theorem ze_X12_tells_206 (d F : Nat) (this x2 x3 x4 x6 x7 s0 : Int) (c : zC) : zex zc_X12_tells zk_X12_tells (zrun zTab d) (F + 1) 206 [(2, this), (3, 0), (0, x2), (0, x3), (0, x4), (3, 0), (0, x6), (0, x7), (3, 0)] [(0, s0)] c =
  if c this (-1) = 12 then
    if c this (-1) = 12 then
      if c (c this 23) (-1) = 100 ∧ (0 : Int) ≤ x7 ∧ x7 < c (c this 23) (-2) then
        if (c (c this 23) x7) < 0 then
          if c this (-1) = 12 then
            zex zc_X12_tells zk_X12_tells (zrun zTab d) F 169 [(2, this), (3, 0), (0, x2), (0, x3), (0, x4), (3, 0), (0, x6), (0, zw (x7 + 1)), (3, 0)] [] (zup c this 26 (zadd (c this 26) 0))
          else none
        else
          if s0 < 0 then
            if c this (-1) = 12 then
              zex zc_X12_tells zk_X12_tells (zrun zTab d) F 169 [(2, this), (3, 0), (0, x2), (0, x3), (0, x4), (3, 0), (0, x6), (0, zw (x7 + 1)), (3, 0)] [] (zup c this 26 (zadd (c this 26) 1))
            else none
          else
            if c this (-1) = 12 then
              zbnd (zrun zTab d 184 [this, s0] c) (fun v1 c2 =>
                if c2 this (-1) = 12 then
                  if c2 (c2 this 23) (-1) = 100 ∧ (0 : Int) ≤ x7 ∧ x7 < c2 (c2 this 23) (-2) then
                    if v1 = (c2 (c2 this 23) x7) then
                      if c2 this (-1) = 12 then
                        zex zc_X12_tells zk_X12_tells (zrun zTab d) F 169 [(2, this), (3, 0), (0, x2), (0, x3), (0, x4), (3, 0), (0, x6), (0, zw (x7 + 1)), (3, 0)] [] (zup c2 this 26 (zadd (c this 26) 0))
                      else none
                    else
                      if c2 this (-1) = 12 then
                        zex zc_X12_tells zk_X12_tells (zrun zTab d) F 169 [(2, this), (3, 0), (0, x2), (0, x3), (0, x4), (3, 0), (0, x6), (0, zw (x7 + 1)), (3, 0)] [] (zup c2 this 26 (zadd (c this 26) 1))
                      else none
                  else none
                else none)
            else none
      else none
    else none
  else none := zf_X12_tells_206 _ _ this x2 x3 x4 x6 x7 s0 c
set_option maxRecDepth 100000 in
theorem zf_X12_isOneWord (call : zCall) (K : zK) (this : Int) (c : zC) : zseg zc_X12_isOneWord zk_X12_isOneWord call K 1000 0 [(2, this)] [] c =
  if c this (-1) = 12 then
    zbnd (call 163 [this] c) (fun _ c2 =>
      if c2 this (-1) = 12 then
        zbnd (call 165 [this, 0] c2) (fun _ c4 =>
          if c4 this (-1) = 12 then
            zbnd (call 164 [this] c4) (fun v5 c6 =>
              if v5 = 0 then
                some (1, c6)
              else
                some (0, c6))
          else none)
      else none)
  else none := by rfl
theorem ze_X12_isOneWord (d : Nat) (this : Int) (c : zC) : zrun zTab (d + 1) 187 [this] c =
  if c this (-1) = 12 then
    zbnd (zrun zTab d 163 [this] c) (fun _ c2 =>
      if c2 this (-1) = 12 then
        zbnd (zrun zTab d 165 [this, 0] c2) (fun _ c4 =>
          if c4 this (-1) = 12 then
            zbnd (zrun zTab d 164 [this] c4) (fun v5 c6 =>
              if v5 = 0 then
                some (1, c6)
              else
                some (0, c6))
          else none)
      else none)
  else none := (zrun_s zt187).trans (zf_X12_isOneWord _ _ this c)
set_option maxRecDepth 100000 in
theorem zf_X12_puts (call : zCall) (K : zK) (this x1 x2 x3 : Int) (c : zC) : zseg zc_X12_puts zk_X12_puts call K 1000 0 [(2, this), (0, x1), (0, x2), (0, x3), (3, 0)] [] c =
  if c this (-1) = 12 then
    zbnd (call 144 [x1, x2] c) (fun v1 c2 =>
      if c2 (c this 0) (-1) = 100 ∧ (0 : Int) ≤ v1 ∧ v1 < c2 (c this 0) (-2) then
        K 14 [(2, this), (0, x1), (0, x2), (3, 0), (0, 1)] [] (zup c2 (c this 0) v1 x3)
      else none)
  else none := by rfl
theorem ze_X12_puts (d : Nat) (this x1 x2 x3 : Int) (c : zC) : zrun zTab (d + 1) 188 [this, x1, x2, x3] c =
  if c this (-1) = 12 then
    zbnd (zrun zTab d 144 [x1, x2] c) (fun v1 c2 =>
      if c2 (c this 0) (-1) = 100 ∧ (0 : Int) ≤ v1 ∧ v1 < c2 (c this 0) (-2) then
        zex zc_X12_puts zk_X12_puts (zrun zTab d) 19999 14 [(2, this), (0, x1), (0, x2), (3, 0), (0, 1)] [] (zup c2 (c this 0) v1 x3)
      else none)
  else none := (zrun_s zt188).trans (zf_X12_puts _ _ this x1 x2 x3 c)
set_option maxRecDepth 100000 in
theorem zf_X12_puts_14 (call : zCall) (K : zK) (this x1 x2 x4 : Int) (c : zC) : zseg zc_X12_puts zk_X12_puts call K 1000 14 [(2, this), (0, x1), (0, x2), (3, 0), (0, x4)] [] c =
  if x4 < 12 then
    if c this (-1) = 12 then
      zbnd (call 144 [x1, x2] c) (fun v1 c2 =>
        if c2 this (-1) = 12 then
          if c2 (c2 this 9) (-1) = 100 ∧ (0 : Int) ≤ x4 ∧ x4 < c2 (c2 this 9) (-2) then
            if c2 (c this 0) (-1) = 100 ∧ (0 : Int) ≤ (zadd v1 x4) ∧ (zadd v1 x4) < c2 (c this 0) (-2) then
              K 14 [(2, this), (0, x1), (0, x2), (3, 0), (0, zw (x4 + 1))] [] (zup c2 (c this 0) (zadd v1 x4) (c2 (c2 this 9) x4))
            else none
          else none
        else none)
    else none
  else
    some (0, c) := by rfl
theorem ze_X12_puts_14 (d F : Nat) (this x1 x2 x4 : Int) (c : zC) : zex zc_X12_puts zk_X12_puts (zrun zTab d) (F + 1) 14 [(2, this), (0, x1), (0, x2), (3, 0), (0, x4)] [] c =
  if x4 < 12 then
    if c this (-1) = 12 then
      zbnd (zrun zTab d 144 [x1, x2] c) (fun v1 c2 =>
        if c2 this (-1) = 12 then
          if c2 (c2 this 9) (-1) = 100 ∧ (0 : Int) ≤ x4 ∧ x4 < c2 (c2 this 9) (-2) then
            if c2 (c this 0) (-1) = 100 ∧ (0 : Int) ≤ (zadd v1 x4) ∧ (zadd v1 x4) < c2 (c this 0) (-2) then
              zex zc_X12_puts zk_X12_puts (zrun zTab d) F 14 [(2, this), (0, x1), (0, x2), (3, 0), (0, zw (x4 + 1))] [] (zup c2 (c this 0) (zadd v1 x4) (c2 (c2 this 9) x4))
            else none
          else none
        else none)
    else none
  else
    some (0, c) := zf_X12_puts_14 _ _ this x1 x2 x4 c
set_option maxRecDepth 100000 in
theorem zf_X12_insert (call : zCall) (K : zK) (this x1 x2 : Int) (c : zC) : zseg zc_X12_insert zk_X12_insert call K 1000 0 [(2, this), (0, x1), (0, x2), (3, 0), (3, 0), (3, 0)] [] c =
  zbnd (call 141 [x1] c) (fun v1 c2 =>
    if v1 = 0 then
      some ((-1), c2)
    else
      if c2 this (-1) = 12 then
        zbnd (call 142 [this, x1] c2) (fun v3 c4 =>
          zbnd (call 138 [x2, 0, v3] c4) (fun v5 c6 =>
            if v5 = 0 then
              some ((-1), c6)
            else
              if c6 this (-1) = 12 then
                zbnd (call 142 [this, x1] c6) (fun v7 c8 =>
                  if v7 = 20 then
                    some ((-4), c8)
                  else
                    if c8 this (-1) = 12 then
                      zbnd (call 187 [this] c8) (fun v9 c10 =>
                        if v9 = 0 then
                          if c10 this (-1) = 12 then
                            some (zsub (-100) (c10 this 6), c10)
                          else none
                        else
                          if c10 this (-1) = 12 then
                            zbnd (call 140 [this] c10) (fun _ c12 =>
                              if c12 this (-1) = 12 then
                                zbnd (call 185 [this, x1] c12) (fun v13 c14 =>
                                  if v13 = 0 then
                                    zbnd (call 144 [x1, v13] c14) (fun v15 c16 =>
                                      K 101 [(2, this), (0, x1), (0, x2), (0, v13), (0, 0), (0, zsub v15 1)] [] c16)
                                  else
                                    if x2 < v13 then
                                      if c14 this (-1) = 12 then
                                        zbnd (call 146 [this, x1, x2] c14) (fun v17 c18 =>
                                          zbnd (call 144 [x1, v13] c18) (fun v19 c20 =>
                                            K 101 [(2, this), (0, x1), (0, x2), (0, v13), (0, v17), (0, zsub v19 1)] [] c20))
                                      else none
                                    else
                                      if c14 this (-1) = 12 then
                                        zbnd (call 146 [this, x1, zsub v13 1] c14) (fun v21 c22 =>
                                          zbnd (call 144 [x1, v13] c22) (fun v23 c24 =>
                                            K 101 [(2, this), (0, x1), (0, x2), (0, v13), (0, v21), (0, zsub v23 1)] [] c24))
                                      else none)
                              else none)
                          else none)
                    else none)
              else none))
      else none) := by rfl
theorem ze_X12_insert (d : Nat) (this x1 x2 : Int) (c : zC) : zrun zTab (d + 1) 189 [this, x1, x2] c =
  zbnd (zrun zTab d 141 [x1] c) (fun v1 c2 =>
    if v1 = 0 then
      some ((-1), c2)
    else
      if c2 this (-1) = 12 then
        zbnd (zrun zTab d 142 [this, x1] c2) (fun v3 c4 =>
          zbnd (zrun zTab d 138 [x2, 0, v3] c4) (fun v5 c6 =>
            if v5 = 0 then
              some ((-1), c6)
            else
              if c6 this (-1) = 12 then
                zbnd (zrun zTab d 142 [this, x1] c6) (fun v7 c8 =>
                  if v7 = 20 then
                    some ((-4), c8)
                  else
                    if c8 this (-1) = 12 then
                      zbnd (zrun zTab d 187 [this] c8) (fun v9 c10 =>
                        if v9 = 0 then
                          if c10 this (-1) = 12 then
                            some (zsub (-100) (c10 this 6), c10)
                          else none
                        else
                          if c10 this (-1) = 12 then
                            zbnd (zrun zTab d 140 [this] c10) (fun _ c12 =>
                              if c12 this (-1) = 12 then
                                zbnd (zrun zTab d 185 [this, x1] c12) (fun v13 c14 =>
                                  if v13 = 0 then
                                    zbnd (zrun zTab d 144 [x1, v13] c14) (fun v15 c16 =>
                                      zex zc_X12_insert zk_X12_insert (zrun zTab d) 19999 101 [(2, this), (0, x1), (0, x2), (0, v13), (0, 0), (0, zsub v15 1)] [] c16)
                                  else
                                    if x2 < v13 then
                                      if c14 this (-1) = 12 then
                                        zbnd (zrun zTab d 146 [this, x1, x2] c14) (fun v17 c18 =>
                                          zbnd (zrun zTab d 144 [x1, v13] c18) (fun v19 c20 =>
                                            zex zc_X12_insert zk_X12_insert (zrun zTab d) 19999 101 [(2, this), (0, x1), (0, x2), (0, v13), (0, v17), (0, zsub v19 1)] [] c20))
                                      else none
                                    else
                                      if c14 this (-1) = 12 then
                                        zbnd (zrun zTab d 146 [this, x1, zsub v13 1] c14) (fun v21 c22 =>
                                          zbnd (zrun zTab d 144 [x1, v13] c22) (fun v23 c24 =>
                                            zex zc_X12_insert zk_X12_insert (zrun zTab d) 19999 101 [(2, this), (0, x1), (0, x2), (0, v13), (0, v21), (0, zsub v23 1)] [] c24))
                                      else none)
                              else none)
                          else none)
                    else none)
              else none))
      else none) := (zrun_s zt189).trans (zf_X12_insert _ _ this x1 x2 c)
set_option maxRecDepth 100000 in
theorem zf_X12_insert_101 (call : zCall) (K : zK) (this x1 x2 x3 x4 x5 : Int) (c : zC) : zseg zc_X12_insert zk_X12_insert call K 1000 101 [(2, this), (0, x1), (0, x2), (0, x3), (0, x4), (0, x5)] [] c =
  zbnd (call 144 [x1, x2] c) (fun v1 c2 =>
    if x5 < v1 then
      if c2 this (-1) = 12 then
        zbnd (call 188 [this, x1, x2, x4] c2) (fun _ c4 =>
          if c4 this (-1) = 12 then
            if c4 (c4 this 0) (-1) = 100 ∧ (0 : Int) ≤ (zmul 242 x1) ∧ (zmul 242 x1) < c4 (c4 this 0) (-2) then
              if c4 (c4 this 0) (-1) = 100 ∧ (0 : Int) ≤ (zmul 242 x1) ∧ (zmul 242 x1) < c4 (c4 this 0) (-2) then
                if (zup c4 (c4 this 0) (zmul 242 x1) (zadd (c4 (c4 this 0) (zmul 242 x1)) 1)) this (-1) = 12 then
                  zbnd (call 186 [this, x1, x3, x2, 0, 1] (zup c4 (c4 this 0) (zmul 242 x1) (zadd (c4 (c4 this 0) (zmul 242 x1)) 1))) (fun _ c6 =>
                    if c6 this (-1) = 12 then
                      zbnd (call 142 [this, x1] c6) (fun v7 c8 =>
                        some (v7, c8))
                    else none)
                else none
              else none
            else none
          else none)
      else none
    else
      if c2 this (-1) = 12 then
        if c2 this (-1) = 12 then
          if c2 (c2 this 0) (-1) = 100 ∧ (0 : Int) ≤ x5 ∧ x5 < c2 (c2 this 0) (-2) then
            if c2 (c2 this 0) (-1) = 100 ∧ (0 : Int) ≤ (zadd x5 12) ∧ (zadd x5 12) < c2 (c2 this 0) (-2) then
              K 101 [(2, this), (0, x1), (0, x2), (0, x3), (0, x4), (0, zw (x5 + (-1)))] [] (zup c2 (c2 this 0) (zadd x5 12) (c2 (c2 this 0) x5))
            else none
          else none
        else none
      else none) := by rfl
theorem ze_X12_insert_101 (d F : Nat) (this x1 x2 x3 x4 x5 : Int) (c : zC) : zex zc_X12_insert zk_X12_insert (zrun zTab d) (F + 1) 101 [(2, this), (0, x1), (0, x2), (0, x3), (0, x4), (0, x5)] [] c =
  zbnd (zrun zTab d 144 [x1, x2] c) (fun v1 c2 =>
    if x5 < v1 then
      if c2 this (-1) = 12 then
        zbnd (zrun zTab d 188 [this, x1, x2, x4] c2) (fun _ c4 =>
          if c4 this (-1) = 12 then
            if c4 (c4 this 0) (-1) = 100 ∧ (0 : Int) ≤ (zmul 242 x1) ∧ (zmul 242 x1) < c4 (c4 this 0) (-2) then
              if c4 (c4 this 0) (-1) = 100 ∧ (0 : Int) ≤ (zmul 242 x1) ∧ (zmul 242 x1) < c4 (c4 this 0) (-2) then
                if (zup c4 (c4 this 0) (zmul 242 x1) (zadd (c4 (c4 this 0) (zmul 242 x1)) 1)) this (-1) = 12 then
                  zbnd (zrun zTab d 186 [this, x1, x3, x2, 0, 1] (zup c4 (c4 this 0) (zmul 242 x1) (zadd (c4 (c4 this 0) (zmul 242 x1)) 1))) (fun _ c6 =>
                    if c6 this (-1) = 12 then
                      zbnd (zrun zTab d 142 [this, x1] c6) (fun v7 c8 =>
                        some (v7, c8))
                    else none)
                else none
              else none
            else none
          else none)
      else none
    else
      if c2 this (-1) = 12 then
        if c2 this (-1) = 12 then
          if c2 (c2 this 0) (-1) = 100 ∧ (0 : Int) ≤ x5 ∧ x5 < c2 (c2 this 0) (-2) then
            if c2 (c2 this 0) (-1) = 100 ∧ (0 : Int) ≤ (zadd x5 12) ∧ (zadd x5 12) < c2 (c2 this 0) (-2) then
              zex zc_X12_insert zk_X12_insert (zrun zTab d) F 101 [(2, this), (0, x1), (0, x2), (0, x3), (0, x4), (0, zw (x5 + (-1)))] [] (zup c2 (c2 this 0) (zadd x5 12) (c2 (c2 this 0) x5))
            else none
          else none
        else none
      else none) := zf_X12_insert_101 _ _ this x1 x2 x3 x4 x5 c
set_option maxRecDepth 100000 in
theorem zf_X12_replace (call : zCall) (K : zK) (this x1 x2 : Int) (c : zC) : zseg zc_X12_replace zk_X12_replace call K 1000 0 [(2, this), (0, x1), (0, x2), (3, 0)] [] c =
  if c this (-1) = 12 then
    zbnd (call 145 [this, x1, x2] c) (fun v1 c2 =>
      if v1 = 0 then
        some ((-1), c2)
      else
        if c2 this (-1) = 12 then
          zbnd (call 187 [this] c2) (fun v3 c4 =>
            if v3 = 0 then
              if c4 this (-1) = 12 then
                some (zsub (-100) (c4 this 6), c4)
              else none
            else
              if c4 this (-1) = 12 then
                zbnd (call 140 [this] c4) (fun _ c6 =>
                  if c6 this (-1) = 12 then
                    zbnd (call 185 [this, x1] c6) (fun v7 c8 =>
                      if c8 this (-1) = 12 then
                        zbnd (call 146 [this, x1, x2] c8) (fun v9 c10 =>
                          if c10 this (-1) = 12 then
                            zbnd (call 188 [this, x1, x2, v9] c10) (fun _ c12 =>
                              if c12 this (-1) = 12 then
                                zbnd (call 186 [this, x1, v7, x2, 1, 1] c12) (fun _ c14 =>
                                  some (v7, c14))
                              else none)
                          else none)
                      else none)
                  else none)
              else none)
        else none)
  else none := by rfl
theorem ze_X12_replace (d : Nat) (this x1 x2 : Int) (c : zC) : zrun zTab (d + 1) 190 [this, x1, x2] c =
  if c this (-1) = 12 then
    zbnd (zrun zTab d 145 [this, x1, x2] c) (fun v1 c2 =>
      if v1 = 0 then
        some ((-1), c2)
      else
        if c2 this (-1) = 12 then
          zbnd (zrun zTab d 187 [this] c2) (fun v3 c4 =>
            if v3 = 0 then
              if c4 this (-1) = 12 then
                some (zsub (-100) (c4 this 6), c4)
              else none
            else
              if c4 this (-1) = 12 then
                zbnd (zrun zTab d 140 [this] c4) (fun _ c6 =>
                  if c6 this (-1) = 12 then
                    zbnd (zrun zTab d 185 [this, x1] c6) (fun v7 c8 =>
                      if c8 this (-1) = 12 then
                        zbnd (zrun zTab d 146 [this, x1, x2] c8) (fun v9 c10 =>
                          if c10 this (-1) = 12 then
                            zbnd (zrun zTab d 188 [this, x1, x2, v9] c10) (fun _ c12 =>
                              if c12 this (-1) = 12 then
                                zbnd (zrun zTab d 186 [this, x1, v7, x2, 1, 1] c12) (fun _ c14 =>
                                  some (v7, c14))
                              else none)
                          else none)
                      else none)
                  else none)
              else none)
        else none)
  else none := (zrun_s zt190).trans (zf_X12_replace _ _ this x1 x2 c)
set_option maxRecDepth 100000 in
theorem zf_X12_cut (call : zCall) (K : zK) (this x1 x2 : Int) (c : zC) : zseg zc_X12_cut zk_X12_cut call K 1000 0 [(2, this), (0, x1), (0, x2), (3, 0), (3, 0), (3, 0), (3, 0)] [] c =
  if c this (-1) = 12 then
    zbnd (call 145 [this, x1, x2] c) (fun v1 c2 =>
      if v1 = 0 then
        some ((-1), c2)
      else
        if c2 this (-1) = 12 then
          zbnd (call 140 [this] c2) (fun _ c4 =>
            if c4 this (-1) = 12 then
              zbnd (call 185 [this, x1] c4) (fun v5 c6 =>
                if c6 this (-1) = 12 then
                  zbnd (call 146 [this, x1, x2] c6) (fun v7 c8 =>
                    if x2 = 0 then
                      K 46 [(2, this), (0, x1), (0, x2), (0, v5), (0, v7), (3, 0), (3, 0)] [] c8
                    else
                      if c8 this (-1) = 12 then
                        zbnd (call 146 [this, x1, zsub x2 1] c8) (fun v9 c10 =>
                          if v9 = v7 then
                            zbnd (call 144 [x1, x2] c10) (fun v11 c12 =>
                              K 80 [(2, this), (0, x1), (0, x2), (0, v5), (3, 0), (0, 0), (0, v11)] [] c12)
                          else
                            K 46 [(2, this), (0, x1), (0, x2), (0, v5), (0, v7), (3, 0), (3, 0)] [] c10)
                      else none)
                else none)
            else none)
        else none)
  else none := by rfl
theorem ze_X12_cut (d : Nat) (this x1 x2 : Int) (c : zC) : zrun zTab (d + 1) 191 [this, x1, x2] c =
  if c this (-1) = 12 then
    zbnd (zrun zTab d 145 [this, x1, x2] c) (fun v1 c2 =>
      if v1 = 0 then
        some ((-1), c2)
      else
        if c2 this (-1) = 12 then
          zbnd (zrun zTab d 140 [this] c2) (fun _ c4 =>
            if c4 this (-1) = 12 then
              zbnd (zrun zTab d 185 [this, x1] c4) (fun v5 c6 =>
                if c6 this (-1) = 12 then
                  zbnd (zrun zTab d 146 [this, x1, x2] c6) (fun v7 c8 =>
                    if x2 = 0 then
                      zex zc_X12_cut zk_X12_cut (zrun zTab d) 19999 46 [(2, this), (0, x1), (0, x2), (0, v5), (0, v7), (3, 0), (3, 0)] [] c8
                    else
                      if c8 this (-1) = 12 then
                        zbnd (zrun zTab d 146 [this, x1, zsub x2 1] c8) (fun v9 c10 =>
                          if v9 = v7 then
                            zbnd (zrun zTab d 144 [x1, x2] c10) (fun v11 c12 =>
                              zex zc_X12_cut zk_X12_cut (zrun zTab d) 19999 80 [(2, this), (0, x1), (0, x2), (0, v5), (3, 0), (0, 0), (0, v11)] [] c12)
                          else
                            zex zc_X12_cut zk_X12_cut (zrun zTab d) 19999 46 [(2, this), (0, x1), (0, x2), (0, v5), (0, v7), (3, 0), (3, 0)] [] c10)
                      else none)
                else none)
            else none)
        else none)
  else none := (zrun_s zt191).trans (zf_X12_cut _ _ this x1 x2 c)
set_option maxRecDepth 100000 in
theorem zf_X12_cut_46 (call : zCall) (K : zK) (this x1 x2 x3 x4 : Int) (c : zC) : zseg zc_X12_cut zk_X12_cut call K 1000 46 [(2, this), (0, x1), (0, x2), (0, x3), (0, x4), (3, 0), (3, 0)] [] c =
  if x2 = (zsub x3 1) then
    zbnd (call 144 [x1, x2] c) (fun v1 c2 =>
      K 80 [(2, this), (0, x1), (0, x2), (0, x3), (3, 0), (0, 1), (0, v1)] [] c2)
  else
    if c this (-1) = 12 then
      zbnd (call 146 [this, x1, zadd x2 1] c) (fun v3 c4 =>
        if v3 = x4 then
          zbnd (call 144 [x1, x2] c4) (fun v5 c6 =>
            K 80 [(2, this), (0, x1), (0, x2), (0, x3), (3, 0), (0, 0), (0, v5)] [] c6)
        else
          zbnd (call 144 [x1, x2] c4) (fun v7 c8 =>
            K 80 [(2, this), (0, x1), (0, x2), (0, x3), (3, 0), (0, 1), (0, v7)] [] c8))
    else none := by rfl
theorem ze_X12_cut_46 (d F : Nat) (this x1 x2 x3 x4 : Int) (c : zC) : zex zc_X12_cut zk_X12_cut (zrun zTab d) (F + 1) 46 [(2, this), (0, x1), (0, x2), (0, x3), (0, x4), (3, 0), (3, 0)] [] c =
  if x2 = (zsub x3 1) then
    zbnd (zrun zTab d 144 [x1, x2] c) (fun v1 c2 =>
      zex zc_X12_cut zk_X12_cut (zrun zTab d) F 80 [(2, this), (0, x1), (0, x2), (0, x3), (3, 0), (0, 1), (0, v1)] [] c2)
  else
    if c this (-1) = 12 then
      zbnd (zrun zTab d 146 [this, x1, zadd x2 1] c) (fun v3 c4 =>
        if v3 = x4 then
          zbnd (zrun zTab d 144 [x1, x2] c4) (fun v5 c6 =>
            zex zc_X12_cut zk_X12_cut (zrun zTab d) F 80 [(2, this), (0, x1), (0, x2), (0, x3), (3, 0), (0, 0), (0, v5)] [] c6)
        else
          zbnd (zrun zTab d 144 [x1, x2] c4) (fun v7 c8 =>
            zex zc_X12_cut zk_X12_cut (zrun zTab d) F 80 [(2, this), (0, x1), (0, x2), (0, x3), (3, 0), (0, 1), (0, v7)] [] c8))
    else none := zf_X12_cut_46 _ _ this x1 x2 x3 x4 c
set_option maxRecDepth 100000 in
theorem zf_X12_cut_80 (call : zCall) (K : zK) (this x1 x2 x3 x5 x6 : Int) (c : zC) : zseg zc_X12_cut zk_X12_cut call K 1000 80 [(2, this), (0, x1), (0, x2), (0, x3), (3, 0), (0, x5), (0, x6)] [] c =
  zbnd (call 144 [x1, zsub x3 1] c) (fun v1 c2 =>
    if x6 < v1 then
      if c2 this (-1) = 12 then
        if c2 this (-1) = 12 then
          if c2 (c2 this 0) (-1) = 100 ∧ (0 : Int) ≤ (zadd x6 12) ∧ (zadd x6 12) < c2 (c2 this 0) (-2) then
            if c2 (c2 this 0) (-1) = 100 ∧ (0 : Int) ≤ x6 ∧ x6 < c2 (c2 this 0) (-2) then
              K 80 [(2, this), (0, x1), (0, x2), (0, x3), (3, 0), (0, x5), (0, zw (x6 + 1))] [] (zup c2 (c2 this 0) x6 (c2 (c2 this 0) (zadd x6 12)))
            else none
          else none
        else none
      else none
    else
      if c2 this (-1) = 12 then
        if c2 (c2 this 0) (-1) = 100 ∧ (0 : Int) ≤ (zmul 242 x1) ∧ (zmul 242 x1) < c2 (c2 this 0) (-2) then
          if c2 (c2 this 0) (-1) = 100 ∧ (0 : Int) ≤ (zmul 242 x1) ∧ (zmul 242 x1) < c2 (c2 this 0) (-2) then
            K 132 [(2, this), (0, x1), (0, x2), (0, x3), (3, 0), (0, x5), (0, x2)] [] (zup c2 (c2 this 0) (zmul 242 x1) (zsub (c2 (c2 this 0) (zmul 242 x1)) 1))
          else none
        else none
      else none) := by rfl
theorem ze_X12_cut_80 (d F : Nat) (this x1 x2 x3 x5 x6 : Int) (c : zC) : zex zc_X12_cut zk_X12_cut (zrun zTab d) (F + 1) 80 [(2, this), (0, x1), (0, x2), (0, x3), (3, 0), (0, x5), (0, x6)] [] c =
  zbnd (zrun zTab d 144 [x1, zsub x3 1] c) (fun v1 c2 =>
    if x6 < v1 then
      if c2 this (-1) = 12 then
        if c2 this (-1) = 12 then
          if c2 (c2 this 0) (-1) = 100 ∧ (0 : Int) ≤ (zadd x6 12) ∧ (zadd x6 12) < c2 (c2 this 0) (-2) then
            if c2 (c2 this 0) (-1) = 100 ∧ (0 : Int) ≤ x6 ∧ x6 < c2 (c2 this 0) (-2) then
              zex zc_X12_cut zk_X12_cut (zrun zTab d) F 80 [(2, this), (0, x1), (0, x2), (0, x3), (3, 0), (0, x5), (0, zw (x6 + 1))] [] (zup c2 (c2 this 0) x6 (c2 (c2 this 0) (zadd x6 12)))
            else none
          else none
        else none
      else none
    else
      if c2 this (-1) = 12 then
        if c2 (c2 this 0) (-1) = 100 ∧ (0 : Int) ≤ (zmul 242 x1) ∧ (zmul 242 x1) < c2 (c2 this 0) (-2) then
          if c2 (c2 this 0) (-1) = 100 ∧ (0 : Int) ≤ (zmul 242 x1) ∧ (zmul 242 x1) < c2 (c2 this 0) (-2) then
            zex zc_X12_cut zk_X12_cut (zrun zTab d) F 132 [(2, this), (0, x1), (0, x2), (0, x3), (3, 0), (0, x5), (0, x2)] [] (zup c2 (c2 this 0) (zmul 242 x1) (zsub (c2 (c2 this 0) (zmul 242 x1)) 1))
          else none
        else none
      else none) := zf_X12_cut_80 _ _ this x1 x2 x3 x5 x6 c
set_option maxRecDepth 100000 in
theorem zf_X12_cut_132 (call : zCall) (K : zK) (this x1 x2 x3 x5 x6 : Int) (c : zC) : zseg zc_X12_cut zk_X12_cut call K 1000 132 [(2, this), (0, x1), (0, x2), (0, x3), (3, 0), (0, x5), (0, x6)] [] c =
  if c this (-1) = 12 then
    zbnd (call 142 [this, x1] c) (fun v1 c2 =>
      if x6 < v1 then
        if x5 = 0 then
          if c2 this (-1) = 12 then
            zbnd (call 186 [this, x1, x3, x2, 1, 0] c2) (fun _ c4 =>
              if c4 this (-1) = 12 then
                zbnd (call 142 [this, x1] c4) (fun v5 c6 =>
                  some (v5, c6))
              else none)
          else none
        else
          if c2 this (-1) = 12 then
            zbnd (call 144 [x1, x6] c2) (fun v7 c8 =>
              if c8 (c2 this 0) (-1) = 100 ∧ (0 : Int) ≤ v7 ∧ v7 < c8 (c2 this 0) (-2) then
                if c8 (c2 this 0) (-1) = 100 ∧ (0 : Int) ≤ v7 ∧ v7 < c8 (c2 this 0) (-2) then
                  K 132 [(2, this), (0, x1), (0, x2), (0, x3), (3, 0), (0, x5), (0, zw (x6 + 1))] [] (zup c8 (c2 this 0) v7 (zsub (c8 (c2 this 0) v7) 1))
                else none
              else none)
          else none
      else
        if c2 this (-1) = 12 then
          zbnd (call 186 [this, x1, x3, x2, 1, 0] c2) (fun _ c10 =>
            if c10 this (-1) = 12 then
              zbnd (call 142 [this, x1] c10) (fun v11 c12 =>
                some (v11, c12))
            else none)
        else none)
  else none := by rfl
theorem ze_X12_cut_132 (d F : Nat) (this x1 x2 x3 x5 x6 : Int) (c : zC) : zex zc_X12_cut zk_X12_cut (zrun zTab d) (F + 1) 132 [(2, this), (0, x1), (0, x2), (0, x3), (3, 0), (0, x5), (0, x6)] [] c =
  if c this (-1) = 12 then
    zbnd (zrun zTab d 142 [this, x1] c) (fun v1 c2 =>
      if x6 < v1 then
        if x5 = 0 then
          if c2 this (-1) = 12 then
            zbnd (zrun zTab d 186 [this, x1, x3, x2, 1, 0] c2) (fun _ c4 =>
              if c4 this (-1) = 12 then
                zbnd (zrun zTab d 142 [this, x1] c4) (fun v5 c6 =>
                  some (v5, c6))
              else none)
          else none
        else
          if c2 this (-1) = 12 then
            zbnd (zrun zTab d 144 [x1, x6] c2) (fun v7 c8 =>
              if c8 (c2 this 0) (-1) = 100 ∧ (0 : Int) ≤ v7 ∧ v7 < c8 (c2 this 0) (-2) then
                if c8 (c2 this 0) (-1) = 100 ∧ (0 : Int) ≤ v7 ∧ v7 < c8 (c2 this 0) (-2) then
                  zex zc_X12_cut zk_X12_cut (zrun zTab d) F 132 [(2, this), (0, x1), (0, x2), (0, x3), (3, 0), (0, x5), (0, zw (x6 + 1))] [] (zup c8 (c2 this 0) v7 (zsub (c8 (c2 this 0) v7) 1))
                else none
              else none)
          else none
      else
        if c2 this (-1) = 12 then
          zbnd (zrun zTab d 186 [this, x1, x3, x2, 1, 0] c2) (fun _ c10 =>
            if c10 this (-1) = 12 then
              zbnd (zrun zTab d 142 [this, x1] c10) (fun v11 c12 =>
                some (v11, c12))
            else none)
        else none)
  else none := zf_X12_cut_132 _ _ this x1 x2 x3 x5 x6 c
set_option maxRecDepth 100000 in
theorem zf_X12_edited (call : zCall) (K : zK) (this x1 : Int) (c : zC) : zseg zc_X12_edited zk_X12_edited call K 1000 0 [(2, this), (0, x1)] [] c =
  zbnd (call 138 [x1, 0, 2] c) (fun v1 c2 =>
    if v1 = 0 then
      some ((-1), c2)
    else
      if c2 this (-1) = 12 then
        if (c2 this 24) = 0 then
          some ((-5), c2)
        else
          if x1 = 0 then
            if c2 this (-1) = 12 then
              some (c2 this 25, c2)
            else none
          else
            if x1 = 1 then
              if c2 this (-1) = 12 then
                some (c2 this 26, c2)
              else none
            else
              if c2 this (-1) = 12 then
                some (c2 this 27, c2)
              else none
      else none) := by rfl
theorem ze_X12_edited (d : Nat) (this x1 : Int) (c : zC) : zrun zTab (d + 1) 192 [this, x1] c =
  zbnd (zrun zTab d 138 [x1, 0, 2] c) (fun v1 c2 =>
    if v1 = 0 then
      some ((-1), c2)
    else
      if c2 this (-1) = 12 then
        if (c2 this 24) = 0 then
          some ((-5), c2)
        else
          if x1 = 0 then
            if c2 this (-1) = 12 then
              some (c2 this 25, c2)
            else none
          else
            if x1 = 1 then
              if c2 this (-1) = 12 then
                some (c2 this 26, c2)
              else none
            else
              if c2 this (-1) = 12 then
                some (c2 this 27, c2)
              else none
      else none) := (zrun_s zt192).trans (zf_X12_edited _ _ this x1 c)
set_option maxRecDepth 100000 in
theorem zf_X12_cause (call : zCall) (K : zK) (this : Int) (c : zC) : zseg zc_X12_cause zk_X12_cause call K 1000 0 [(2, this)] [] c =
  if c this (-1) = 12 then
    if (c this 8) = 0 then
      some ((-5), c)
    else
      if c this (-1) = 12 then
        some (c this 8, c)
      else none
  else none := by rfl
theorem ze_X12_cause (d : Nat) (this : Int) (c : zC) : zrun zTab (d + 1) 193 [this] c =
  if c this (-1) = 12 then
    if (c this 8) = 0 then
      some ((-5), c)
    else
      if c this (-1) = 12 then
        some (c this 8, c)
      else none
  else none := (zrun_s zt193).trans (zf_X12_cause _ _ this c)
