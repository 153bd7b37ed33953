set_option maxRecDepth 100000 in
theorem zf_X12_word_ (call : zCall) (K : zK) (this x1 x2 x3 : Int) (c : zC) : zseg zc_X12_word_ zk_X12_word_ call K 1000 0 [(2, this), (0, x1), (0, x2), (0, x3), (3, 0)] [] c =
  if c this (-1) = 12 then
    zbnd (call 145 [this, x1, x2] c) (fun v1 c2 =>
      if v1 = 0 then
        some ((-1), c2)
      else
        if x3 < (-1) then
          some ((-1), c2)
        else
          if c2 this (-1) = 12 then
            zbnd (call 144 [x1, x2] c2) (fun v3 c4 =>
              if c4 (c2 this 0) (-1) = 100 ∧ (0 : Int) ≤ (zadd v3 1) ∧ (zadd v3 1) < c4 (c2 this 0) (-2) then
                if x3 = (-1) then
                  some (c4 (c2 this 0) (zadd v3 1), c4)
                else
                  if x3 < (c4 (c2 this 0) (zadd v3 1)) then
                    if c4 this (-1) = 12 then
                      zbnd (call 144 [x1, x2] c4) (fun v5 c6 =>
                        if c6 (c4 this 0) (-1) = 100 ∧ (0 : Int) ≤ (zadd (zadd v5 2) x3) ∧ (zadd (zadd v5 2) x3) < c6 (c4 this 0) (-2) then
                          some (c6 (c4 this 0) (zadd (zadd v5 2) x3), c6)
                        else none)
                    else none
                  else
                    some ((-5), c4)
              else none)
          else none)
  else none := by rfl
theorem ze_X12_word_ (d : Nat) (this x1 x2 x3 : Int) (c : zC) : zrun zTab (d + 1) 194 [this, x1, x2, x3] c =
  if c this (-1) = 12 then
    zbnd (zrun zTab d 145 [this, x1, x2] c) (fun v1 c2 =>
      if v1 = 0 then
        some ((-1), c2)
      else
        if x3 < (-1) then
          some ((-1), c2)
        else
          if c2 this (-1) = 12 then
            zbnd (zrun zTab d 144 [x1, x2] c2) (fun v3 c4 =>
              if c4 (c2 this 0) (-1) = 100 ∧ (0 : Int) ≤ (zadd v3 1) ∧ (zadd v3 1) < c4 (c2 this 0) (-2) then
                if x3 = (-1) then
                  some (c4 (c2 this 0) (zadd v3 1), c4)
                else
                  if x3 < (c4 (c2 this 0) (zadd v3 1)) then
                    if c4 this (-1) = 12 then
                      zbnd (zrun zTab d 144 [x1, x2] c4) (fun v5 c6 =>
                        if c6 (c4 this 0) (-1) = 100 ∧ (0 : Int) ≤ (zadd (zadd v5 2) x3) ∧ (zadd (zadd v5 2) x3) < c6 (c4 this 0) (-2) then
                          some (c6 (c4 this 0) (zadd (zadd v5 2) x3), c6)
                        else none)
                    else none
                  else
                    some ((-5), c4)
              else none)
          else none)
  else none := (zrun_s zt194).trans (zf_X12_word_ _ _ this x1 x2 x3 c)
set_option maxRecDepth 100000 in
theorem zf_X12_told (call : zCall) (K : zK) (this x1 x2 x3 : Int) (c : zC) : zseg zc_X12_told zk_X12_told call K 1000 0 [(2, this), (0, x1), (0, x2), (0, x3), (3, 0), (3, 0)] [] c =
  if c this (-1) = 12 then
    zbnd (call 145 [this, x1, x2] c) (fun v1 c2 =>
      if v1 = 0 then
        some ((-1), c2)
      else
        zbnd (call 138 [x3, 0, 7] c2) (fun v3 c4 =>
          if v3 = 0 then
            some ((-1), c4)
          else
            if c4 this (-1) = 12 then
              zbnd (call 183 [this, x1] c4) (fun _ c6 =>
                K 32 [(2, this), (0, x1), (0, x2), (0, x3), (0, 0), (0, 0)] [] c6)
            else none))
  else none := by rfl
theorem ze_X12_told (d : Nat) (this x1 x2 x3 : Int) (c : zC) : zrun zTab (d + 1) 195 [this, x1, x2, x3] c =
  if c this (-1) = 12 then
    zbnd (zrun zTab d 145 [this, x1, x2] c) (fun v1 c2 =>
      if v1 = 0 then
        some ((-1), c2)
      else
        zbnd (zrun zTab d 138 [x3, 0, 7] c2) (fun v3 c4 =>
          if v3 = 0 then
            some ((-1), c4)
          else
            if c4 this (-1) = 12 then
              zbnd (zrun zTab d 183 [this, x1] c4) (fun _ c6 =>
                zex zc_X12_told zk_X12_told (zrun zTab d) 19999 32 [(2, this), (0, x1), (0, x2), (0, x3), (0, 0), (0, 0)] [] c6)
            else none))
  else none := (zrun_s zt195).trans (zf_X12_told _ _ this x1 x2 x3 c)
set_option maxRecDepth 100000 in
theorem zf_X12_told_32 (call : zCall) (K : zK) (this x1 x2 x3 x4 x5 : Int) (c : zC) : zseg zc_X12_told zk_X12_told call K 1000 32 [(2, this), (0, x1), (0, x2), (0, x3), (0, x4), (0, x5)] [] c =
  if x5 < x2 then
    if c this (-1) = 12 then
      if c (c this 21) (-1) = 100 ∧ (0 : Int) ≤ x5 ∧ x5 < c (c this 21) (-2) then
        if (c (c this 21) x5) = 0 then
          K 32 [(2, this), (0, x1), (0, x2), (0, x3), (0, zadd x4 1), (0, zw (x5 + 1))] [] c
        else
          K 32 [(2, this), (0, x1), (0, x2), (0, x3), (0, zadd x4 0), (0, zw (x5 + 1))] [] c
      else none
    else none
  else
    if x3 = 0 then
      if c this (-1) = 12 then
        zbnd (call 146 [this, x1, x2] c) (fun v1 c2 =>
          some (v1, c2))
      else none
    else
      if x3 = 1 then
        if c this (-1) = 12 then
          if c (c this 21) (-1) = 100 ∧ (0 : Int) ≤ x2 ∧ x2 < c (c this 21) (-2) then
            some (c (c this 21) x2, c)
          else none
        else none
      else
        if x3 = 2 then
          if c this (-1) = 12 then
            if c (c this 21) (-1) = 100 ∧ (0 : Int) ≤ x2 ∧ x2 < c (c this 21) (-2) then
              if (c (c this 21) x2) = 0 then
                if c this (-1) = 12 then
                  if c (c this 19) (-1) = 100 ∧ (0 : Int) ≤ x2 ∧ x2 < c (c this 19) (-2) then
                    some (c (c this 19) x2, c)
                  else none
                else none
              else
                some ((-5), c)
            else none
          else none
        else
          if x3 = 3 then
            if c this (-1) = 12 then
              if c (c this 19) (-1) = 100 ∧ (0 : Int) ≤ x2 ∧ x2 < c (c this 19) (-2) then
                if (c (c this 19) x2) < 0 then
                  some ((-5), c)
                else
                  if c this (-1) = 12 then
                    if c (c this 19) (-1) = 100 ∧ (0 : Int) ≤ x2 ∧ x2 < c (c this 19) (-2) then
                      some (c (c this 19) x2, c)
                    else none
                  else none
              else none
            else none
          else
            if x3 = 4 then
              if c this (-1) = 12 then
                if c (c this 19) (-1) = 100 ∧ (0 : Int) ≤ x2 ∧ x2 < c (c this 19) (-2) then
                  if (c (c this 19) x2) < 0 then
                    some ((-5), c)
                  else
                    if c this (-1) = 12 then
                      if c (c this 20) (-1) = 100 ∧ (0 : Int) ≤ x2 ∧ x2 < c (c this 20) (-2) then
                        some (c (c this 20) x2, c)
                      else none
                    else none
                else none
              else none
            else
              if x3 = 5 then
                if c this (-1) = 12 then
                  if c (c this 18) (-1) = 100 ∧ (0 : Int) ≤ x2 ∧ x2 < c (c this 18) (-2) then
                    if (c (c this 18) x2) < 0 then
                      some ((-5), c)
                    else
                      if c this (-1) = 12 then
                        if c this (-1) = 12 then
                          if c (c this 18) (-1) = 100 ∧ (0 : Int) ≤ x2 ∧ x2 < c (c this 18) (-2) then
                            if c (c this 13) (-1) = 100 ∧ (0 : Int) ≤ (zadd (zmul 43 x2) (c (c this 18) x2)) ∧ (zadd (zmul 43 x2) (c (c this 18) x2)) < c (c this 13) (-2) then
                              some (c (c this 13) (zadd (zmul 43 x2) (c (c this 18) x2)), c)
                            else none
                          else none
                        else none
                      else none
                  else none
                else none
              else
                if x3 = 6 then
                  some (x4, c)
                else
                  if c this (-1) = 12 then
                    if c (c this 12) (-1) = 100 ∧ (0 : Int) ≤ x2 ∧ x2 < c (c this 12) (-2) then
                      some (c (c this 12) x2, c)
                    else none
                  else none := by rfl
theorem ze_X12_told_32 (d F : Nat) (this x1 x2 x3 x4 x5 : Int) (c : zC) : zex zc_X12_told zk_X12_told (zrun zTab d) (F + 1) 32 [(2, this), (0, x1), (0, x2), (0, x3), (0, x4), (0, x5)] [] c =
  if x5 < x2 then
    if c this (-1) = 12 then
      if c (c this 21) (-1) = 100 ∧ (0 : Int) ≤ x5 ∧ x5 < c (c this 21) (-2) then
        if (c (c this 21) x5) = 0 then
          zex zc_X12_told zk_X12_told (zrun zTab d) F 32 [(2, this), (0, x1), (0, x2), (0, x3), (0, zadd x4 1), (0, zw (x5 + 1))] [] c
        else
          zex zc_X12_told zk_X12_told (zrun zTab d) F 32 [(2, this), (0, x1), (0, x2), (0, x3), (0, zadd x4 0), (0, zw (x5 + 1))] [] c
      else none
    else none
  else
    if x3 = 0 then
      if c this (-1) = 12 then
        zbnd (zrun zTab d 146 [this, x1, x2] c) (fun v1 c2 =>
          some (v1, c2))
      else none
    else
      if x3 = 1 then
        if c this (-1) = 12 then
          if c (c this 21) (-1) = 100 ∧ (0 : Int) ≤ x2 ∧ x2 < c (c this 21) (-2) then
            some (c (c this 21) x2, c)
          else none
        else none
      else
        if x3 = 2 then
          if c this (-1) = 12 then
            if c (c this 21) (-1) = 100 ∧ (0 : Int) ≤ x2 ∧ x2 < c (c this 21) (-2) then
              if (c (c this 21) x2) = 0 then
                if c this (-1) = 12 then
                  if c (c this 19) (-1) = 100 ∧ (0 : Int) ≤ x2 ∧ x2 < c (c this 19) (-2) then
                    some (c (c this 19) x2, c)
                  else none
                else none
              else
                some ((-5), c)
            else none
          else none
        else
          if x3 = 3 then
            if c this (-1) = 12 then
              if c (c this 19) (-1) = 100 ∧ (0 : Int) ≤ x2 ∧ x2 < c (c this 19) (-2) then
                if (c (c this 19) x2) < 0 then
                  some ((-5), c)
                else
                  if c this (-1) = 12 then
                    if c (c this 19) (-1) = 100 ∧ (0 : Int) ≤ x2 ∧ x2 < c (c this 19) (-2) then
                      some (c (c this 19) x2, c)
                    else none
                  else none
              else none
            else none
          else
            if x3 = 4 then
              if c this (-1) = 12 then
                if c (c this 19) (-1) = 100 ∧ (0 : Int) ≤ x2 ∧ x2 < c (c this 19) (-2) then
                  if (c (c this 19) x2) < 0 then
                    some ((-5), c)
                  else
                    if c this (-1) = 12 then
                      if c (c this 20) (-1) = 100 ∧ (0 : Int) ≤ x2 ∧ x2 < c (c this 20) (-2) then
                        some (c (c this 20) x2, c)
                      else none
                    else none
                else none
              else none
            else
              if x3 = 5 then
                if c this (-1) = 12 then
                  if c (c this 18) (-1) = 100 ∧ (0 : Int) ≤ x2 ∧ x2 < c (c this 18) (-2) then
                    if (c (c this 18) x2) < 0 then
                      some ((-5), c)
                    else
                      if c this (-1) = 12 then
                        if c this (-1) = 12 then
                          if c (c this 18) (-1) = 100 ∧ (0 : Int) ≤ x2 ∧ x2 < c (c this 18) (-2) then
                            if c (c this 13) (-1) = 100 ∧ (0 : Int) ≤ (zadd (zmul 43 x2) (c (c this 18) x2)) ∧ (zadd (zmul 43 x2) (c (c this 18) x2)) < c (c this 13) (-2) then
                              some (c (c this 13) (zadd (zmul 43 x2) (c (c this 18) x2)), c)
                            else none
                          else none
                        else none
                      else none
                  else none
                else none
              else
                if x3 = 6 then
                  some (x4, c)
                else
                  if c this (-1) = 12 then
                    if c (c this 12) (-1) = 100 ∧ (0 : Int) ≤ x2 ∧ x2 < c (c this 12) (-2) then
                      some (c (c this 12) x2, c)
                    else none
                  else none := zf_X12_told_32 _ _ this x1 x2 x3 x4 x5 c
set_option maxRecDepth 100000 in
theorem zf_X12_base (call : zCall) (K : zK) (this x1 x2 x3 x4 : Int) (c : zC) : zseg zc_X12_base zk_X12_base call K 1000 0 [(2, this), (0, x1), (0, x2), (0, x3), (0, x4), (3, 0)] [] c =
  if c this (-1) = 12 then
    zbnd (call 145 [this, x1, x2] c) (fun v1 c2 =>
      if v1 = 0 then
        some ((-1), c2)
      else
        if x3 < 0 then
          some ((-1), c2)
        else
          if x4 < (-1) then
            some ((-1), c2)
          else
            if c2 this (-1) = 12 then
              zbnd (call 177 [this, x1, x2] c2) (fun _ c4 =>
                if c4 this (-1) = 12 then
                  if c4 (c4 this 12) (-1) = 100 ∧ (0 : Int) ≤ x2 ∧ x2 < c4 (c4 this 12) (-2) then
                    if x3 < (c4 (c4 this 12) x2) then
                      if c4 this (-1) = 12 then
                        if c4 (c4 this 14) (-1) = 100 ∧ (0 : Int) ≤ (zadd (zmul 43 x2) x3) ∧ (zadd (zmul 43 x2) x3) < c4 (c4 this 14) (-2) then
                          if x4 = (-1) then
                            some (c4 (c4 this 14) (zadd (zmul 43 x2) x3), c4)
                          else
                            if x4 < (c4 (c4 this 14) (zadd (zmul 43 x2) x3)) then
                              if c4 this (-1) = 12 then
                                if c4 (c4 this 15) (-1) = 100 ∧ (0 : Int) ≤ (zadd (zmul 10 (zadd (zmul 43 x2) x3)) x4) ∧ (zadd (zmul 10 (zadd (zmul 43 x2) x3)) x4) < c4 (c4 this 15) (-2) then
                                  some (c4 (c4 this 15) (zadd (zmul 10 (zadd (zmul 43 x2) x3)) x4), c4)
                                else none
                              else none
                            else
                              some ((-5), c4)
                        else none
                      else none
                    else
                      some ((-5), c4)
                  else none
                else none)
            else none)
  else none := by rfl
theorem ze_X12_base (d : Nat) (this x1 x2 x3 x4 : Int) (c : zC) : zrun zTab (d + 1) 196 [this, x1, x2, x3, x4] c =
  if c this (-1) = 12 then
    zbnd (zrun zTab d 145 [this, x1, x2] c) (fun v1 c2 =>
      if v1 = 0 then
        some ((-1), c2)
      else
        if x3 < 0 then
          some ((-1), c2)
        else
          if x4 < (-1) then
            some ((-1), c2)
          else
            if c2 this (-1) = 12 then
              zbnd (zrun zTab d 177 [this, x1, x2] c2) (fun _ c4 =>
                if c4 this (-1) = 12 then
                  if c4 (c4 this 12) (-1) = 100 ∧ (0 : Int) ≤ x2 ∧ x2 < c4 (c4 this 12) (-2) then
                    if x3 < (c4 (c4 this 12) x2) then
                      if c4 this (-1) = 12 then
                        if c4 (c4 this 14) (-1) = 100 ∧ (0 : Int) ≤ (zadd (zmul 43 x2) x3) ∧ (zadd (zmul 43 x2) x3) < c4 (c4 this 14) (-2) then
                          if x4 = (-1) then
                            some (c4 (c4 this 14) (zadd (zmul 43 x2) x3), c4)
                          else
                            if x4 < (c4 (c4 this 14) (zadd (zmul 43 x2) x3)) then
                              if c4 this (-1) = 12 then
                                if c4 (c4 this 15) (-1) = 100 ∧ (0 : Int) ≤ (zadd (zmul 10 (zadd (zmul 43 x2) x3)) x4) ∧ (zadd (zmul 10 (zadd (zmul 43 x2) x3)) x4) < c4 (c4 this 15) (-2) then
                                  some (c4 (c4 this 15) (zadd (zmul 10 (zadd (zmul 43 x2) x3)) x4), c4)
                                else none
                              else none
                            else
                              some ((-5), c4)
                        else none
                      else none
                    else
                      some ((-5), c4)
                  else none
                else none)
            else none)
  else none := (zrun_s zt196).trans (zf_X12_base _ _ this x1 x2 x3 x4 c)
set_option maxRecDepth 100000 in
theorem zf_X12_ofSense (call : zCall) (K : zK) (this x1 x2 : Int) (c : zC) : zseg zc_X12_ofSense zk_X12_ofSense call K 1000 0 [(2, this), (0, x1), (0, x2), (3, 0), (3, 0), (3, 0)] [] c =
  if c this (-1) = 12 then
    zbnd (call 149 [this] c) (fun v1 c2 =>
      zbnd (call 138 [x1, 0, zsub v1 1] c2) (fun v3 c4 =>
        if v3 = 0 then
          some ((-1), c4)
        else
          zbnd (call 138 [x2, 0, 4] c4) (fun v5 c6 =>
            if v5 = 0 then
              zbnd (call 138 [x2, 10, 13] c6) (fun v7 c8 =>
                if v7 = 0 then
                  some ((-1), c8)
                else
                  K 36 [(2, this), (0, x1), (0, x2), (3, 0), (3, 0), (3, 0)] [] c8)
            else
              K 36 [(2, this), (0, x1), (0, x2), (3, 0), (3, 0), (3, 0)] [] c6)))
  else none := by rfl
theorem ze_X12_ofSense (d : Nat) (this x1 x2 : Int) (c : zC) : zrun zTab (d + 1) 197 [this, x1, x2] c =
  if c this (-1) = 12 then
    zbnd (zrun zTab d 149 [this] c) (fun v1 c2 =>
      zbnd (zrun zTab d 138 [x1, 0, zsub v1 1] c2) (fun v3 c4 =>
        if v3 = 0 then
          some ((-1), c4)
        else
          zbnd (zrun zTab d 138 [x2, 0, 4] c4) (fun v5 c6 =>
            if v5 = 0 then
              zbnd (zrun zTab d 138 [x2, 10, 13] c6) (fun v7 c8 =>
                if v7 = 0 then
                  some ((-1), c8)
                else
                  zex zc_X12_ofSense zk_X12_ofSense (zrun zTab d) 19999 36 [(2, this), (0, x1), (0, x2), (3, 0), (3, 0), (3, 0)] [] c8)
            else
              zex zc_X12_ofSense zk_X12_ofSense (zrun zTab d) 19999 36 [(2, this), (0, x1), (0, x2), (3, 0), (3, 0), (3, 0)] [] c6)))
  else none := (zrun_s zt197).trans (zf_X12_ofSense _ _ this x1 x2 c)
set_option maxRecDepth 100000 in
theorem zf_X12_ofSense_36 (call : zCall) (K : zK) (this x1 x2 : Int) (c : zC) : zseg zc_X12_ofSense zk_X12_ofSense call K 1000 36 [(2, this), (0, x1), (0, x2), (3, 0), (3, 0), (3, 0)] [] c =
  if x2 < 3 then
    if x2 = 0 then
      if c this (-1) = 12 then
        zbnd (call 151 [x1] c) (fun v1 c2 =>
          if c2 (c this 0) (-1) = 100 ∧ (0 : Int) ≤ v1 ∧ v1 < c2 (c this 0) (-2) then
            some (c2 (c this 0) v1, c2)
          else none)
      else none
    else
      if x2 = 1 then
        if c this (-1) = 12 then
          zbnd (call 152 [this, x1] c) (fun v3 c4 =>
            some (v3, c4))
        else none
      else
        if c this (-1) = 12 then
          zbnd (call 154 [this, x1] c) (fun v5 c6 =>
            some (v5, c6))
        else none
  else
    K 81 [(2, this), (0, x1), (0, x2), (0, 0), (0, 0), (3, 0)] [] c := by rfl
theorem ze_X12_ofSense_36 (d F : Nat) (this x1 x2 : Int) (c : zC) : zex zc_X12_ofSense zk_X12_ofSense (zrun zTab d) (F + 1) 36 [(2, this), (0, x1), (0, x2), (3, 0), (3, 0), (3, 0)] [] c =
  if x2 < 3 then
    if x2 = 0 then
      if c this (-1) = 12 then
        zbnd (zrun zTab d 151 [x1] c) (fun v1 c2 =>
          if c2 (c this 0) (-1) = 100 ∧ (0 : Int) ≤ v1 ∧ v1 < c2 (c this 0) (-2) then
            some (c2 (c this 0) v1, c2)
          else none)
      else none
    else
      if x2 = 1 then
        if c this (-1) = 12 then
          zbnd (zrun zTab d 152 [this, x1] c) (fun v3 c4 =>
            some (v3, c4))
        else none
      else
        if c this (-1) = 12 then
          zbnd (zrun zTab d 154 [this, x1] c) (fun v5 c6 =>
            some (v5, c6))
        else none
  else
    zex zc_X12_ofSense zk_X12_ofSense (zrun zTab d) F 81 [(2, this), (0, x1), (0, x2), (0, 0), (0, 0), (3, 0)] [] c := zf_X12_ofSense_36 _ _ this x1 x2 c
set_option maxRecDepth 100000 in
theorem zf_X12_ofSense_81 (call : zCall) (K : zK) (this x1 x2 x3 x4 : Int) (c : zC) : zseg zc_X12_ofSense zk_X12_ofSense call K 1000 81 [(2, this), (0, x1), (0, x2), (0, x3), (0, x4), (3, 0)] [] c =
  if x4 < 4 then
    if x2 ≤ 9 then
      if c this (-1) = 12 then
        zbnd (call 183 [this, x4] c) (fun _ c2 =>
          K 114 [(2, this), (0, x1), (0, x2), (0, x3), (0, x4), (0, 0)] [] c2)
      else none
    else
      if (zsub x2 10) = x4 then
        if c this (-1) = 12 then
          zbnd (call 183 [this, x4] c) (fun _ c4 =>
            K 114 [(2, this), (0, x1), (0, x2), (0, x3), (0, x4), (0, 0)] [] c4)
        else none
      else
        K 81 [(2, this), (0, x1), (0, x2), (0, x3), (0, zw (x4 + 1)), (3, 0)] [] c
  else
    some (x3, c) := by rfl
theorem ze_X12_ofSense_81 (d F : Nat) (this x1 x2 x3 x4 : Int) (c : zC) : zex zc_X12_ofSense zk_X12_ofSense (zrun zTab d) (F + 1) 81 [(2, this), (0, x1), (0, x2), (0, x3), (0, x4), (3, 0)] [] c =
  if x4 < 4 then
    if x2 ≤ 9 then
      if c this (-1) = 12 then
        zbnd (zrun zTab d 183 [this, x4] c) (fun _ c2 =>
          zex zc_X12_ofSense zk_X12_ofSense (zrun zTab d) F 114 [(2, this), (0, x1), (0, x2), (0, x3), (0, x4), (0, 0)] [] c2)
      else none
    else
      if (zsub x2 10) = x4 then
        if c this (-1) = 12 then
          zbnd (zrun zTab d 183 [this, x4] c) (fun _ c4 =>
            zex zc_X12_ofSense zk_X12_ofSense (zrun zTab d) F 114 [(2, this), (0, x1), (0, x2), (0, x3), (0, x4), (0, 0)] [] c4)
        else none
      else
        zex zc_X12_ofSense zk_X12_ofSense (zrun zTab d) F 81 [(2, this), (0, x1), (0, x2), (0, x3), (0, zw (x4 + 1)), (3, 0)] [] c
  else
    some (x3, c) := zf_X12_ofSense_81 _ _ this x1 x2 x3 x4 c
set_option maxRecDepth 100000 in
theorem zf_X12_ofSense_114 (call : zCall) (K : zK) (this x1 x2 x3 x4 x5 : Int) (c : zC) : zseg zc_X12_ofSense zk_X12_ofSense call K 1000 114 [(2, this), (0, x1), (0, x2), (0, x3), (0, x4), (0, x5)] [] c =
  if c this (-1) = 12 then
    zbnd (call 142 [this, x4] c) (fun v1 c2 =>
      if x5 < v1 then
        if c2 this (-1) = 12 then
          if c2 (c2 this 19) (-1) = 100 ∧ (0 : Int) ≤ x5 ∧ x5 < c2 (c2 this 19) (-2) then
            if (c2 (c2 this 19) x5) = x1 then
              if x2 = 4 then
                K 114 [(2, this), (0, x1), (0, x2), (0, zadd x3 1), (0, x4), (0, zw (x5 + 1))] [] c2
              else
                if c2 this (-1) = 12 then
                  if c2 (c2 this 21) (-1) = 100 ∧ (0 : Int) ≤ x5 ∧ x5 < c2 (c2 this 21) (-2) then
                    if (c2 (c2 this 21) x5) = 0 then
                      K 114 [(2, this), (0, x1), (0, x2), (0, zadd x3 1), (0, x4), (0, zw (x5 + 1))] [] c2
                    else
                      K 114 [(2, this), (0, x1), (0, x2), (0, zadd x3 0), (0, x4), (0, zw (x5 + 1))] [] c2
                  else none
                else none
            else
              K 114 [(2, this), (0, x1), (0, x2), (0, zadd x3 0), (0, x4), (0, zw (x5 + 1))] [] c2
          else none
        else none
      else
        K 81 [(2, this), (0, x1), (0, x2), (0, x3), (0, zw (x4 + 1)), (3, 0)] [] c2)
  else none := by rfl
theorem ze_X12_ofSense_114 (d F : Nat) (this x1 x2 x3 x4 x5 : Int) (c : zC) : zex zc_X12_ofSense zk_X12_ofSense (zrun zTab d) (F + 1) 114 [(2, this), (0, x1), (0, x2), (0, x3), (0, x4), (0, x5)] [] c =
  if c this (-1) = 12 then
    zbnd (zrun zTab d 142 [this, x4] c) (fun v1 c2 =>
      if x5 < v1 then
        if c2 this (-1) = 12 then
          if c2 (c2 this 19) (-1) = 100 ∧ (0 : Int) ≤ x5 ∧ x5 < c2 (c2 this 19) (-2) then
            if (c2 (c2 this 19) x5) = x1 then
              if x2 = 4 then
                zex zc_X12_ofSense zk_X12_ofSense (zrun zTab d) F 114 [(2, this), (0, x1), (0, x2), (0, zadd x3 1), (0, x4), (0, zw (x5 + 1))] [] c2
              else
                if c2 this (-1) = 12 then
                  if c2 (c2 this 21) (-1) = 100 ∧ (0 : Int) ≤ x5 ∧ x5 < c2 (c2 this 21) (-2) then
                    if (c2 (c2 this 21) x5) = 0 then
                      zex zc_X12_ofSense zk_X12_ofSense (zrun zTab d) F 114 [(2, this), (0, x1), (0, x2), (0, zadd x3 1), (0, x4), (0, zw (x5 + 1))] [] c2
                    else
                      zex zc_X12_ofSense zk_X12_ofSense (zrun zTab d) F 114 [(2, this), (0, x1), (0, x2), (0, zadd x3 0), (0, x4), (0, zw (x5 + 1))] [] c2
                  else none
                else none
            else
              zex zc_X12_ofSense zk_X12_ofSense (zrun zTab d) F 114 [(2, this), (0, x1), (0, x2), (0, zadd x3 0), (0, x4), (0, zw (x5 + 1))] [] c2
          else none
        else none
      else
        zex zc_X12_ofSense zk_X12_ofSense (zrun zTab d) F 81 [(2, this), (0, x1), (0, x2), (0, x3), (0, zw (x4 + 1)), (3, 0)] [] c2)
  else none := zf_X12_ofSense_114 _ _ this x1 x2 x3 x4 x5 c
set_option maxRecDepth 100000 in
theorem zf_X12_reasonsOf (call : zCall) (K : zK) (this x1 x2 : Int) (c : zC) : zseg zc_X12_reasonsOf zk_X12_reasonsOf call K 1000 0 [(2, this), (0, x1), (0, x2), (3, 0), (3, 0)] [] c =
  K 5 [(2, this), (0, x1), (0, x2), (0, 0), (0, 0)] [] c := by rfl
theorem ze_X12_reasonsOf (d : Nat) (this x1 x2 : Int) (c : zC) : zrun zTab (d + 1) 198 [this, x1, x2] c =
  zex zc_X12_reasonsOf zk_X12_reasonsOf (zrun zTab d) 19999 5 [(2, this), (0, x1), (0, x2), (0, 0), (0, 0)] [] c := (zrun_s zt198).trans (zf_X12_reasonsOf _ _ this x1 x2 c)
set_option maxRecDepth 100000 in
theorem zf_X12_reasonsOf_5 (call : zCall) (K : zK) (this x1 x2 x3 x4 : Int) (c : zC) : zseg zc_X12_reasonsOf zk_X12_reasonsOf call K 1000 5 [(2, this), (0, x1), (0, x2), (0, x3), (0, x4)] [] c =
  if c this (-1) = 12 then
    zbnd (call 142 [this, x1] c) (fun v1 c2 =>
      if x4 < v1 then
        if c2 this (-1) = 12 then
          if c2 (c2 this 21) (-1) = 100 ∧ (0 : Int) ≤ x4 ∧ x4 < c2 (c2 this 21) (-2) then
            if (c2 (c2 this 21) x4) = x2 then
              K 5 [(2, this), (0, x1), (0, x2), (0, zadd x3 1), (0, zw (x4 + 1))] [] c2
            else
              K 5 [(2, this), (0, x1), (0, x2), (0, zadd x3 0), (0, zw (x4 + 1))] [] c2
          else none
        else none
      else
        some (x3, c2))
  else none := by rfl
theorem ze_X12_reasonsOf_5 (d F : Nat) (this x1 x2 x3 x4 : Int) (c : zC) : zex zc_X12_reasonsOf zk_X12_reasonsOf (zrun zTab d) (F + 1) 5 [(2, this), (0, x1), (0, x2), (0, x3), (0, x4)] [] c =
  if c this (-1) = 12 then
    zbnd (zrun zTab d 142 [this, x1] c) (fun v1 c2 =>
      if x4 < v1 then
        if c2 this (-1) = 12 then
          if c2 (c2 this 21) (-1) = 100 ∧ (0 : Int) ≤ x4 ∧ x4 < c2 (c2 this 21) (-2) then
            if (c2 (c2 this 21) x4) = x2 then
              zex zc_X12_reasonsOf zk_X12_reasonsOf (zrun zTab d) F 5 [(2, this), (0, x1), (0, x2), (0, zadd x3 1), (0, zw (x4 + 1))] [] c2
            else
              zex zc_X12_reasonsOf zk_X12_reasonsOf (zrun zTab d) F 5 [(2, this), (0, x1), (0, x2), (0, zadd x3 0), (0, zw (x4 + 1))] [] c2
          else none
        else none
      else
        some (x3, c2))
  else none := zf_X12_reasonsOf_5 _ _ this x1 x2 x3 x4 c
set_option maxRecDepth 100000 in
theorem zf_X12_ofPage (call : zCall) (K : zK) (this x1 x2 : Int) (c : zC) : zseg zc_X12_ofPage zk_X12_ofPage call K 1000 0 [(2, this), (0, x1), (0, x2)] [] c =
  zbnd (call 141 [x1] c) (fun v1 c2 =>
    if v1 = 0 then
      some ((-1), c2)
    else
      zbnd (call 138 [x2, 0, 5] c2) (fun v3 c4 =>
        if v3 = 0 then
          zbnd (call 138 [x2, 10, 16] c4) (fun v5 c6 =>
            if v5 = 0 then
              some ((-1), c6)
            else
              K 29 [(2, this), (0, x1), (0, x2)] [] c6)
        else
          K 29 [(2, this), (0, x1), (0, x2)] [] c4)) := by rfl
theorem ze_X12_ofPage (d : Nat) (this x1 x2 : Int) (c : zC) : zrun zTab (d + 1) 199 [this, x1, x2] c =
  zbnd (zrun zTab d 141 [x1] c) (fun v1 c2 =>
    if v1 = 0 then
      some ((-1), c2)
    else
      zbnd (zrun zTab d 138 [x2, 0, 5] c2) (fun v3 c4 =>
        if v3 = 0 then
          zbnd (zrun zTab d 138 [x2, 10, 16] c4) (fun v5 c6 =>
            if v5 = 0 then
              some ((-1), c6)
            else
              zex zc_X12_ofPage zk_X12_ofPage (zrun zTab d) 19999 29 [(2, this), (0, x1), (0, x2)] [] c6)
        else
          zex zc_X12_ofPage zk_X12_ofPage (zrun zTab d) 19999 29 [(2, this), (0, x1), (0, x2)] [] c4)) := (zrun_s zt199).trans (zf_X12_ofPage _ _ this x1 x2 c)
set_option maxRecDepth 100000 in
theorem zf_X12_ofPage_29 (call : zCall) (K : zK) (this x1 x2 : Int) (c : zC) : zseg zc_X12_ofPage zk_X12_ofPage call K 1000 29 [(2, this), (0, x1), (0, x2)] [] c =
  if x2 < 3 then
    if x2 = 0 then
      if c this (-1) = 12 then
        zbnd (call 142 [this, x1] c) (fun v1 c2 =>
          some (v1, c2))
      else none
    else
      if x2 = 1 then
        if c this (-1) = 12 then
          zbnd (call 147 [this, x1] c) (fun v3 c4 =>
            some (v3, c4))
        else none
      else
        if c this (-1) = 12 then
          zbnd (call 143 [this, x1] c) (fun v5 c6 =>
            some (v5, c6))
        else none
  else
    if x2 = 5 then
      K 83 [(2, this), (0, x1), (0, x2)] [(0, 20), (0, (-1)), (0, x1), (2, this)] c
    else
      if c this (-1) = 12 then
        zbnd (call 143 [this, x1] c) (fun v7 c8 =>
          K 83 [(2, this), (0, x1), (0, x2)] [(0, v7), (0, (-1)), (0, x1), (2, this)] c8)
      else none := by rfl
theorem ze_X12_ofPage_29 (d F : Nat) (this x1 x2 : Int) (c : zC) : zex zc_X12_ofPage zk_X12_ofPage (zrun zTab d) (F + 1) 29 [(2, this), (0, x1), (0, x2)] [] c =
  if x2 < 3 then
    if x2 = 0 then
      if c this (-1) = 12 then
        zbnd (zrun zTab d 142 [this, x1] c) (fun v1 c2 =>
          some (v1, c2))
      else none
    else
      if x2 = 1 then
        if c this (-1) = 12 then
          zbnd (zrun zTab d 147 [this, x1] c) (fun v3 c4 =>
            some (v3, c4))
        else none
      else
        if c this (-1) = 12 then
          zbnd (zrun zTab d 143 [this, x1] c) (fun v5 c6 =>
            some (v5, c6))
        else none
  else
    if x2 = 5 then
      zex zc_X12_ofPage zk_X12_ofPage (zrun zTab d) F 83 [(2, this), (0, x1), (0, x2)] [(0, 20), (0, (-1)), (0, x1), (2, this)] c
    else
      if c this (-1) = 12 then
        zbnd (zrun zTab d 143 [this, x1] c) (fun v7 c8 =>
          zex zc_X12_ofPage zk_X12_ofPage (zrun zTab d) F 83 [(2, this), (0, x1), (0, x2)] [(0, v7), (0, (-1)), (0, x1), (2, this)] c8)
      else none := zf_X12_ofPage_29 _ _ this x1 x2 c
set_option maxRecDepth 100000 in
theorem zf_X12_ofPage_83 (call : zCall) (K : zK) (this x1 x2 s0 s1 s2 s3 : Int) (c : zC) : zseg zc_X12_ofPage zk_X12_ofPage call K 1000 83 [(2, this), (0, x1), (0, x2)] [(0, s3), (0, s2), (0, s1), (2, s0)] c =
  if c s0 (-1) = 12 then
    zbnd (call 182 [s0, s1, s2, s3] c) (fun _ c2 =>
      if x2 = 3 then
        if c2 this (-1) = 12 then
          some (c2 this 22, c2)
        else none
      else
        if x2 = 5 then
          if c2 this (-1) = 12 then
            some (c2 this 22, c2)
          else none
        else
          if x2 = 4 then
            if c2 this (-1) = 12 then
              zbnd (call 142 [this, x1] c2) (fun v3 c4 =>
                if c4 this (-1) = 12 then
                  zbnd (call 198 [this, x1, 1] c4) (fun v5 c6 =>
                    some (zsub v3 v5, c6))
                else none)
            else none
          else
            if c2 this (-1) = 12 then
              zbnd (call 198 [this, x1, zsub x2 10] c2) (fun v7 c8 =>
                some (v7, c8))
            else none)
  else none := by rfl
theorem ze_X12_ofPage_83 (d F : Nat) (this x1 x2 s0 s1 s2 s3 : Int) (c : zC) : zex zc_X12_ofPage zk_X12_ofPage (zrun zTab d) (F + 1) 83 [(2, this), (0, x1), (0, x2)] [(0, s3), (0, s2), (0, s1), (2, s0)] c =
  if c s0 (-1) = 12 then
    zbnd (zrun zTab d 182 [s0, s1, s2, s3] c) (fun _ c2 =>
      if x2 = 3 then
        if c2 this (-1) = 12 then
          some (c2 this 22, c2)
        else none
      else
        if x2 = 5 then
          if c2 this (-1) = 12 then
            some (c2 this 22, c2)
          else none
        else
          if x2 = 4 then
            if c2 this (-1) = 12 then
              zbnd (zrun zTab d 142 [this, x1] c2) (fun v3 c4 =>
                if c4 this (-1) = 12 then
                  zbnd (zrun zTab d 198 [this, x1, 1] c4) (fun v5 c6 =>
                    some (zsub v3 v5, c6))
                else none)
            else none
          else
            if c2 this (-1) = 12 then
              zbnd (zrun zTab d 198 [this, x1, zsub x2 10] c2) (fun v7 c8 =>
                some (v7, c8))
            else none)
  else none := zf_X12_ofPage_83 _ _ this x1 x2 s0 s1 s2 s3 c
set_option maxRecDepth 100000 in
theorem zf_X12_linkAt (call : zCall) (K : zK) (this x1 x2 : Int) (c : zC) : zseg zc_X12_linkAt zk_X12_linkAt call K 1000 0 [(2, this), (0, x1), (0, x2), (3, 0), (3, 0)] [] c =
  if c this (-1) = 12 then
    zbnd (call 183 [this, x1] c) (fun _ c2 =>
      K 10 [(2, this), (0, x1), (3, 0), (0, x2), (0, 0)] [] c2)
  else none := by rfl
theorem ze_X12_linkAt (d : Nat) (this x1 x2 : Int) (c : zC) : zrun zTab (d + 1) 200 [this, x1, x2] c =
  if c this (-1) = 12 then
    zbnd (zrun zTab d 183 [this, x1] c) (fun _ c2 =>
      zex zc_X12_linkAt zk_X12_linkAt (zrun zTab d) 19999 10 [(2, this), (0, x1), (3, 0), (0, x2), (0, 0)] [] c2)
  else none := (zrun_s zt200).trans (zf_X12_linkAt _ _ this x1 x2 c)
set_option maxRecDepth 100000 in
theorem zf_X12_linkAt_10 (call : zCall) (K : zK) (this x1 x3 x4 : Int) (c : zC) : zseg zc_X12_linkAt zk_X12_linkAt call K 1000 10 [(2, this), (0, x1), (3, 0), (0, x3), (0, x4)] [] c =
  if c this (-1) = 12 then
    zbnd (call 142 [this, x1] c) (fun v1 c2 =>
      if x4 < v1 then
        if c2 this (-1) = 12 then
          if c2 (c2 this 21) (-1) = 100 ∧ (0 : Int) ≤ x4 ∧ x4 < c2 (c2 this 21) (-2) then
            if (c2 (c2 this 21) x4) = 0 then
              if x3 = 0 then
                some (x4, c2)
              else
                K 10 [(2, this), (0, x1), (3, 0), (0, zw (x3 + (-1))), (0, zw (x4 + 1))] [] c2
            else
              K 10 [(2, this), (0, x1), (3, 0), (0, x3), (0, zw (x4 + 1))] [] c2
          else none
        else none
      else
        some ((-1), c2))
  else none := by rfl
theorem ze_X12_linkAt_10 (d F : Nat) (this x1 x3 x4 : Int) (c : zC) : zex zc_X12_linkAt zk_X12_linkAt (zrun zTab d) (F + 1) 10 [(2, this), (0, x1), (3, 0), (0, x3), (0, x4)] [] c =
  if c this (-1) = 12 then
    zbnd (zrun zTab d 142 [this, x1] c) (fun v1 c2 =>
      if x4 < v1 then
        if c2 this (-1) = 12 then
          if c2 (c2 this 21) (-1) = 100 ∧ (0 : Int) ≤ x4 ∧ x4 < c2 (c2 this 21) (-2) then
            if (c2 (c2 this 21) x4) = 0 then
              if x3 = 0 then
                some (x4, c2)
              else
                zex zc_X12_linkAt zk_X12_linkAt (zrun zTab d) F 10 [(2, this), (0, x1), (3, 0), (0, zw (x3 + (-1))), (0, zw (x4 + 1))] [] c2
            else
              zex zc_X12_linkAt zk_X12_linkAt (zrun zTab d) F 10 [(2, this), (0, x1), (3, 0), (0, x3), (0, zw (x4 + 1))] [] c2
          else none
        else none
      else
        some ((-1), c2))
  else none := zf_X12_linkAt_10 _ _ this x1 x3 x4 c
set_option maxRecDepth 100000 in
theorem zf_X12_link (call : zCall) (K : zK) (this x1 x2 : Int) (c : zC) : zseg zc_X12_link zk_X12_link call K 1000 0 [(2, this), (0, x1), (0, x2), (3, 0)] [] c =
  zbnd (call 141 [x1] c) (fun v1 c2 =>
    if v1 = 0 then
      some ((-1), c2)
    else
      if x2 < 0 then
        some ((-1), c2)
      else
        if c2 this (-1) = 12 then
          zbnd (call 200 [this, x1, x2] c2) (fun v3 c4 =>
            if v3 < 0 then
              some ((-5), c4)
            else
              some (v3, c4))
        else none) := by rfl
theorem ze_X12_link (d : Nat) (this x1 x2 : Int) (c : zC) : zrun zTab (d + 1) 201 [this, x1, x2] c =
  zbnd (zrun zTab d 141 [x1] c) (fun v1 c2 =>
    if v1 = 0 then
      some ((-1), c2)
    else
      if x2 < 0 then
        some ((-1), c2)
      else
        if c2 this (-1) = 12 then
          zbnd (zrun zTab d 200 [this, x1, x2] c2) (fun v3 c4 =>
            if v3 < 0 then
              some ((-5), c4)
            else
              some (v3, c4))
        else none) := (zrun_s zt201).trans (zf_X12_link _ _ this x1 x2 c)
set_option maxRecDepth 100000 in
theorem zf_X12_without (call : zCall) (K : zK) (this x1 x2 : Int) (c : zC) : zseg zc_X12_without zk_X12_without call K 1000 0 [(2, this), (0, x1), (0, x2), (3, 0), (3, 0)] [] c =
  zbnd (call 141 [x1] c) (fun v1 c2 =>
    if v1 = 0 then
      some ((-1), c2)
    else
      if x2 < 0 then
        some ((-1), c2)
      else
        if c2 this (-1) = 12 then
          zbnd (call 200 [this, x1, x2] c2) (fun v3 c4 =>
            if v3 < 0 then
              some ((-1), c4)
            else
              K 31 [(2, this), (0, x1), (3, 0), (0, v3), (0, 0)] [] c4)
        else none) := by rfl
theorem ze_X12_without (d : Nat) (this x1 x2 : Int) (c : zC) : zrun zTab (d + 1) 202 [this, x1, x2] c =
  zbnd (zrun zTab d 141 [x1] c) (fun v1 c2 =>
    if v1 = 0 then
      some ((-1), c2)
    else
      if x2 < 0 then
        some ((-1), c2)
      else
        if c2 this (-1) = 12 then
          zbnd (zrun zTab d 200 [this, x1, x2] c2) (fun v3 c4 =>
            if v3 < 0 then
              some ((-1), c4)
            else
              zex zc_X12_without zk_X12_without (zrun zTab d) 19999 31 [(2, this), (0, x1), (3, 0), (0, v3), (0, 0)] [] c4)
        else none) := (zrun_s zt202).trans (zf_X12_without _ _ this x1 x2 c)
set_option maxRecDepth 100000 in
theorem zf_X12_without_31 (call : zCall) (K : zK) (this x1 x3 x4 : Int) (c : zC) : zseg zc_X12_without zk_X12_without call K 1000 31 [(2, this), (0, x1), (3, 0), (0, x3), (0, x4)] [] c =
  if c this (-1) = 12 then
    zbnd (call 142 [this, x1] c) (fun v1 c2 =>
      if x4 < v1 then
        if c2 this (-1) = 12 then
          if c2 this (-1) = 12 then
            if c2 (c2 this 21) (-1) = 100 ∧ (0 : Int) ≤ x4 ∧ x4 < c2 (c2 this 21) (-2) then
              if c2 (c2 this 28) (-1) = 100 ∧ (0 : Int) ≤ x4 ∧ x4 < c2 (c2 this 28) (-2) then
                K 31 [(2, this), (0, x1), (3, 0), (0, x3), (0, zw (x4 + 1))] [] (zup c2 (c2 this 28) x4 (c2 (c2 this 21) x4))
              else none
            else none
          else none
        else none
      else
        if c2 this (-1) = 12 then
          zbnd (call 143 [this, x1] c2) (fun v3 c4 =>
            if c4 this (-1) = 12 then
              zbnd (call 182 [this, x1, x3, v3] c4) (fun _ c6 =>
                K 77 [(2, this), (0, x1), (3, 0), (3, 0), (0, zadd x3 1)] [] c6)
            else none)
        else none)
  else none := by rfl
theorem ze_X12_without_31 (d F : Nat) (this x1 x3 x4 : Int) (c : zC) : zex zc_X12_without zk_X12_without (zrun zTab d) (F + 1) 31 [(2, this), (0, x1), (3, 0), (0, x3), (0, x4)] [] c =
  if c this (-1) = 12 then
    zbnd (zrun zTab d 142 [this, x1] c) (fun v1 c2 =>
      if x4 < v1 then
        if c2 this (-1) = 12 then
          if c2 this (-1) = 12 then
            if c2 (c2 this 21) (-1) = 100 ∧ (0 : Int) ≤ x4 ∧ x4 < c2 (c2 this 21) (-2) then
              if c2 (c2 this 28) (-1) = 100 ∧ (0 : Int) ≤ x4 ∧ x4 < c2 (c2 this 28) (-2) then
                zex zc_X12_without zk_X12_without (zrun zTab d) F 31 [(2, this), (0, x1), (3, 0), (0, x3), (0, zw (x4 + 1))] [] (zup c2 (c2 this 28) x4 (c2 (c2 this 21) x4))
              else none
            else none
          else none
        else none
      else
        if c2 this (-1) = 12 then
          zbnd (zrun zTab d 143 [this, x1] c2) (fun v3 c4 =>
            if c4 this (-1) = 12 then
              zbnd (zrun zTab d 182 [this, x1, x3, v3] c4) (fun _ c6 =>
                zex zc_X12_without zk_X12_without (zrun zTab d) F 77 [(2, this), (0, x1), (3, 0), (3, 0), (0, zadd x3 1)] [] c6)
            else none)
        else none)
  else none := zf_X12_without_31 _ _ this x1 x3 x4 c
set_option maxRecDepth 100000 in
theorem zf_X12_without_77 (call : zCall) (K : zK) (this x1 x4 : Int) (c : zC) : zseg zc_X12_without zk_X12_without call K 1000 77 [(2, this), (0, x1), (3, 0), (3, 0), (0, x4)] [] c =
  if c this (-1) = 12 then
    zbnd (call 142 [this, x1] c) (fun v1 c2 =>
      if x4 < v1 then
        if c2 this (-1) = 12 then
          if c2 (c2 this 21) (-1) = 100 ∧ (0 : Int) ≤ x4 ∧ x4 < c2 (c2 this 21) (-2) then
            if c2 this (-1) = 12 then
              if c2 (c2 this 28) (-1) = 100 ∧ (0 : Int) ≤ x4 ∧ x4 < c2 (c2 this 28) (-2) then
                if (c2 (c2 this 21) x4) = (c2 (c2 this 28) x4) then
                  K 77 [(2, this), (0, x1), (3, 0), (3, 0), (0, zw (x4 + 1))] [] c2
                else
                  some (x4, c2)
              else none
            else none
          else none
        else none
      else
        some ((-5), c2))
  else none := by rfl
theorem ze_X12_without_77 (d F : Nat) (this x1 x4 : Int) (c : zC) : zex zc_X12_without zk_X12_without (zrun zTab d) (F + 1) 77 [(2, this), (0, x1), (3, 0), (3, 0), (0, x4)] [] c =
  if c this (-1) = 12 then
    zbnd (zrun zTab d 142 [this, x1] c) (fun v1 c2 =>
      if x4 < v1 then
        if c2 this (-1) = 12 then
          if c2 (c2 this 21) (-1) = 100 ∧ (0 : Int) ≤ x4 ∧ x4 < c2 (c2 this 21) (-2) then
            if c2 this (-1) = 12 then
              if c2 (c2 this 28) (-1) = 100 ∧ (0 : Int) ≤ x4 ∧ x4 < c2 (c2 this 28) (-2) then
                if (c2 (c2 this 21) x4) = (c2 (c2 this 28) x4) then
                  zex zc_X12_without zk_X12_without (zrun zTab d) F 77 [(2, this), (0, x1), (3, 0), (3, 0), (0, zw (x4 + 1))] [] c2
                else
                  some (x4, c2)
              else none
            else none
          else none
        else none
      else
        some ((-5), c2))
  else none := zf_X12_without_77 _ _ this x1 x4 c
set_option maxRecDepth 100000 in
theorem zf_X12_again (call : zCall) (K : zK) (this x1 : Int) (c : zC) : zseg zc_X12_again zk_X12_again call K 1000 0 [(2, this), (0, x1)] [] c =
  zbnd (call 141 [x1] c) (fun v1 c2 =>
    if v1 = 0 then
      some ((-1), c2)
    else
      if c2 this (-1) = 12 then
        zbnd (call 183 [this, x1] c2) (fun _ c4 =>
          if c4 this (-1) = 12 then
            some (c4 this 22, c4)
          else none)
      else none) := by rfl
theorem ze_X12_again (d : Nat) (this x1 : Int) (c : zC) : zrun zTab (d + 1) 203 [this, x1] c =
  zbnd (zrun zTab d 141 [x1] c) (fun v1 c2 =>
    if v1 = 0 then
      some ((-1), c2)
    else
      if c2 this (-1) = 12 then
        zbnd (zrun zTab d 183 [this, x1] c2) (fun _ c4 =>
          if c4 this (-1) = 12 then
            some (c4 this 22, c4)
          else none)
      else none) := (zrun_s zt203).trans (zf_X12_again _ _ this x1 c)
set_option maxRecDepth 100000 in
theorem zf_X12_back (call : zCall) (K : zK) (this : Int) (c : zC) : zseg zc_X12_back zk_X12_back call K 1000 0 [(2, this)] [] c =
  if c this (-1) = 12 then
    if (c this 1) = 0 then
      some ((-3), c)
    else
      if c this (-1) = 12 then
        if c this (-1) = 12 then
          zbnd (call 139 [this, c this 1, 0] c) (fun _ c2 =>
            if c2 this (-1) = 12 then
              if c2 this (-1) = 12 then
                if (zup c2 this 1 (zsub (c2 this 1) 1)) this (-1) = 12 then
                  some ((zup c2 this 1 (zsub (c2 this 1) 1)) this 1, zup c2 this 1 (zsub (c2 this 1) 1))
                else none
              else none
            else none)
        else none
      else none
  else none := by rfl
theorem ze_X12_back (d : Nat) (this : Int) (c : zC) : zrun zTab (d + 1) 204 [this] c =
  if c this (-1) = 12 then
    if (c this 1) = 0 then
      some ((-3), c)
    else
      if c this (-1) = 12 then
        if c this (-1) = 12 then
          zbnd (zrun zTab d 139 [this, c this 1, 0] c) (fun _ c2 =>
            if c2 this (-1) = 12 then
              if c2 this (-1) = 12 then
                if (zup c2 this 1 (zsub (c2 this 1) 1)) this (-1) = 12 then
                  some ((zup c2 this 1 (zsub (c2 this 1) 1)) this 1, zup c2 this 1 (zsub (c2 this 1) 1))
                else none
              else none
            else none)
        else none
      else none
  else none := (zrun_s zt204).trans (zf_X12_back _ _ this c)
set_option maxRecDepth 100000 in
theorem zf_X12_image (call : zCall) (K : zK) (this : Int) (c : zC) : zseg zc_X12_image zk_X12_image call K 1000 0 [(2, this)] [] c =
  if c this (-1) = 12 then
    if (zup c this 2 1) this (-1) = 12 then
      zbnd (call 139 [this, 0, 9] (zup c this 2 1)) (fun _ c2 =>
        if c2 this (-1) = 12 then
          zbnd (call 149 [this] c2) (fun v3 c4 =>
            some (v3, c4))
        else none)
    else none
  else none := by rfl
theorem ze_X12_image (d : Nat) (this : Int) (c : zC) : zrun zTab (d + 1) 205 [this] c =
  if c this (-1) = 12 then
    if (zup c this 2 1) this (-1) = 12 then
      zbnd (zrun zTab d 139 [this, 0, 9] (zup c this 2 1)) (fun _ c2 =>
        if c2 this (-1) = 12 then
          zbnd (zrun zTab d 149 [this] c2) (fun v3 c4 =>
            some (v3, c4))
        else none)
    else none
  else none := (zrun_s zt205).trans (zf_X12_image _ _ this c)
set_option maxRecDepth 100000 in
theorem zf_X12_undo (call : zCall) (K : zK) (this : Int) (c : zC) : zseg zc_X12_undo zk_X12_undo call K 1000 0 [(2, this)] [] c =
  if c this (-1) = 12 then
    if (c this 2) = 0 then
      some ((-3), c)
    else
      if c this (-1) = 12 then
        zbnd (call 139 [this, 9, 0] c) (fun _ c2 =>
          if c2 this (-1) = 12 then
            if (zup c2 this 1 0) this (-1) = 12 then
              zbnd (call 149 [this] (zup c2 this 1 0)) (fun v3 c4 =>
                some (v3, c4))
            else none
          else none)
      else none
  else none := by rfl
theorem ze_X12_undo (d : Nat) (this : Int) (c : zC) : zrun zTab (d + 1) 206 [this] c =
  if c this (-1) = 12 then
    if (c this 2) = 0 then
      some ((-3), c)
    else
      if c this (-1) = 12 then
        zbnd (zrun zTab d 139 [this, 9, 0] c) (fun _ c2 =>
          if c2 this (-1) = 12 then
            if (zup c2 this 1 0) this (-1) = 12 then
              zbnd (zrun zTab d 149 [this] (zup c2 this 1 0)) (fun v3 c4 =>
                some (v3, c4))
            else none
          else none)
      else none
  else none := (zrun_s zt206).trans (zf_X12_undo _ _ this c)
set_option maxRecDepth 100000 in
theorem zf_X12_count (call : zCall) (K : zK) (this x1 : Int) (c : zC) : zseg zc_X12_count zk_X12_count call K 1000 0 [(2, this), (0, x1), (3, 0), (3, 0), (3, 0), (3, 0)] [] c =
  zbnd (call 138 [x1, 0, 8] c) (fun v1 c2 =>
    if v1 = 0 then
      some ((-1), c2)
    else
      if x1 < 6 then
        if x1 = 0 then
          if c2 this (-1) = 12 then
            zbnd (call 149 [this] c2) (fun v3 c4 =>
              some (v3, c4))
          else none
        else
          if x1 = 1 then
            if c2 this (-1) = 12 then
              zbnd (call 148 [this] c2) (fun v5 c6 =>
                some (v5, c6))
            else none
          else
            if x1 = 2 then
              if c2 this (-1) = 12 then
                some (c2 this 4, c2)
              else none
            else
              if x1 = 3 then
                if c2 this (-1) = 12 then
                  some (c2 this 1, c2)
                else none
              else
                if x1 = 4 then
                  if c2 this (-1) = 12 then
                    if c2 (c2 this 0) (-1) = 100 ∧ (0 : Int) ≤ 1480 ∧ 1480 < c2 (c2 this 0) (-2) then
                      some (c2 (c2 this 0) 1480, c2)
                    else none
                  else none
                else
                  if c2 this (-1) = 12 then
                    if c2 (c2 this 0) (-1) = 100 ∧ (0 : Int) ≤ 1481 ∧ 1481 < c2 (c2 this 0) (-2) then
                      some (c2 (c2 this 0) 1481, c2)
                    else none
                  else none
      else
        if c2 this (-1) = 12 then
          zbnd (call 149 [this] c2) (fun v7 c8 =>
            K 104 [(2, this), (0, x1), (0, 0), (0, zsub (zishl 1 v7) 1), (0, 0), (3, 0)] [] c8)
        else none) := by rfl
theorem ze_X12_count (d : Nat) (this x1 : Int) (c : zC) : zrun zTab (d + 1) 207 [this, x1] c =
  zbnd (zrun zTab d 138 [x1, 0, 8] c) (fun v1 c2 =>
    if v1 = 0 then
      some ((-1), c2)
    else
      if x1 < 6 then
        if x1 = 0 then
          if c2 this (-1) = 12 then
            zbnd (zrun zTab d 149 [this] c2) (fun v3 c4 =>
              some (v3, c4))
          else none
        else
          if x1 = 1 then
            if c2 this (-1) = 12 then
              zbnd (zrun zTab d 148 [this] c2) (fun v5 c6 =>
                some (v5, c6))
            else none
          else
            if x1 = 2 then
              if c2 this (-1) = 12 then
                some (c2 this 4, c2)
              else none
            else
              if x1 = 3 then
                if c2 this (-1) = 12 then
                  some (c2 this 1, c2)
                else none
              else
                if x1 = 4 then
                  if c2 this (-1) = 12 then
                    if c2 (c2 this 0) (-1) = 100 ∧ (0 : Int) ≤ 1480 ∧ 1480 < c2 (c2 this 0) (-2) then
                      some (c2 (c2 this 0) 1480, c2)
                    else none
                  else none
                else
                  if c2 this (-1) = 12 then
                    if c2 (c2 this 0) (-1) = 100 ∧ (0 : Int) ≤ 1481 ∧ 1481 < c2 (c2 this 0) (-2) then
                      some (c2 (c2 this 0) 1481, c2)
                    else none
                  else none
      else
        if c2 this (-1) = 12 then
          zbnd (zrun zTab d 149 [this] c2) (fun v7 c8 =>
            zex zc_X12_count zk_X12_count (zrun zTab d) 19999 104 [(2, this), (0, x1), (0, 0), (0, zsub (zishl 1 v7) 1), (0, 0), (3, 0)] [] c8)
        else none) := (zrun_s zt207).trans (zf_X12_count _ _ this x1 c)
set_option maxRecDepth 100000 in
theorem zf_X12_count_104 (call : zCall) (K : zK) (this x1 x2 x3 x4 : Int) (c : zC) : zseg zc_X12_count zk_X12_count call K 1000 104 [(2, this), (0, x1), (0, x2), (0, x3), (0, x4), (3, 0)] [] c =
  if x4 < 4 then
    if c this (-1) = 12 then
      zbnd (call 183 [this, x4] c) (fun _ c2 =>
        if x1 = 6 then
          if c2 this (-1) = 12 then
            zbnd (call 142 [this, x4] c2) (fun v3 c4 =>
              K 141 [(2, this), (0, x1), (0, zadd x2 v3), (0, x3), (0, x4), (0, 0)] [] c4)
          else none
        else
          if c2 this (-1) = 12 then
            K 141 [(2, this), (0, x1), (0, zadd x2 (c2 this 22)), (0, x3), (0, x4), (0, 0)] [] c2
          else none)
    else none
  else
    if x1 = 8 then
      some (x3, c)
    else
      some (x2, c) := by rfl
theorem ze_X12_count_104 (d F : Nat) (this x1 x2 x3 x4 : Int) (c : zC) : zex zc_X12_count zk_X12_count (zrun zTab d) (F + 1) 104 [(2, this), (0, x1), (0, x2), (0, x3), (0, x4), (3, 0)] [] c =
  if x4 < 4 then
    if c this (-1) = 12 then
      zbnd (zrun zTab d 183 [this, x4] c) (fun _ c2 =>
        if x1 = 6 then
          if c2 this (-1) = 12 then
            zbnd (zrun zTab d 142 [this, x4] c2) (fun v3 c4 =>
              zex zc_X12_count zk_X12_count (zrun zTab d) F 141 [(2, this), (0, x1), (0, zadd x2 v3), (0, x3), (0, x4), (0, 0)] [] c4)
          else none
        else
          if c2 this (-1) = 12 then
            zex zc_X12_count zk_X12_count (zrun zTab d) F 141 [(2, this), (0, x1), (0, zadd x2 (c2 this 22)), (0, x3), (0, x4), (0, 0)] [] c2
          else none)
    else none
  else
    if x1 = 8 then
      some (x3, c)
    else
      some (x2, c) := zf_X12_count_104 _ _ this x1 x2 x3 x4 c
set_option maxRecDepth 100000 in
theorem zf_X12_count_141 (call : zCall) (K : zK) (this x1 x2 x3 x4 x5 : Int) (c : zC) : zseg zc_X12_count zk_X12_count call K 1000 141 [(2, this), (0, x1), (0, x2), (0, x3), (0, x4), (0, x5)] [] c =
  if c this (-1) = 12 then
    zbnd (call 142 [this, x4] c) (fun v1 c2 =>
      if x5 < v1 then
        if c2 this (-1) = 12 then
          if c2 (c2 this 21) (-1) = 100 ∧ (0 : Int) ≤ x5 ∧ x5 < c2 (c2 this 21) (-2) then
            if (c2 (c2 this 21) x5) = 0 then
              if c2 this (-1) = 12 then
                if c2 (c2 this 19) (-1) = 100 ∧ (0 : Int) ≤ x5 ∧ x5 < c2 (c2 this 19) (-2) then
                  K 141 [(2, this), (0, x1), (0, x2), (0, ziand x3 (zixor (zishl 1 (c2 (c2 this 19) x5)) (-1))), (0, x4), (0, zw (x5 + 1))] [] c2
                else none
              else none
            else
              K 141 [(2, this), (0, x1), (0, x2), (0, ziand x3 (-1)), (0, x4), (0, zw (x5 + 1))] [] c2
          else none
        else none
      else
        K 104 [(2, this), (0, x1), (0, x2), (0, x3), (0, zw (x4 + 1)), (3, 0)] [] c2)
  else none := by rfl
theorem ze_X12_count_141 (d F : Nat) (this x1 x2 x3 x4 x5 : Int) (c : zC) : zex zc_X12_count zk_X12_count (zrun zTab d) (F + 1) 141 [(2, this), (0, x1), (0, x2), (0, x3), (0, x4), (0, x5)] [] c =
  if c this (-1) = 12 then
    zbnd (zrun zTab d 142 [this, x4] c) (fun v1 c2 =>
      if x5 < v1 then
        if c2 this (-1) = 12 then
          if c2 (c2 this 21) (-1) = 100 ∧ (0 : Int) ≤ x5 ∧ x5 < c2 (c2 this 21) (-2) then
            if (c2 (c2 this 21) x5) = 0 then
              if c2 this (-1) = 12 then
                if c2 (c2 this 19) (-1) = 100 ∧ (0 : Int) ≤ x5 ∧ x5 < c2 (c2 this 19) (-2) then
                  zex zc_X12_count zk_X12_count (zrun zTab d) F 141 [(2, this), (0, x1), (0, x2), (0, ziand x3 (zixor (zishl 1 (c2 (c2 this 19) x5)) (-1))), (0, x4), (0, zw (x5 + 1))] [] c2
                else none
              else none
            else
              zex zc_X12_count zk_X12_count (zrun zTab d) F 141 [(2, this), (0, x1), (0, x2), (0, ziand x3 (-1)), (0, x4), (0, zw (x5 + 1))] [] c2
          else none
        else none
      else
        zex zc_X12_count zk_X12_count (zrun zTab d) F 104 [(2, this), (0, x1), (0, x2), (0, x3), (0, zw (x4 + 1)), (3, 0)] [] c2)
  else none := zf_X12_count_141 _ _ this x1 x2 x3 x4 x5 c
