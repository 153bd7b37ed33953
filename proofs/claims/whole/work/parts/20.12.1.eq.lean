set_option maxRecDepth 100000 in
theorem zf_X12_readsPage_7 (call : zCall) (K : zK) (this x1 : Int) (c : zC) : zseg zc_X12_readsPage zk_X12_readsPage call K 1000 7 [(2, this), (0, x1)] [] c =
  if c this (-1) = 12 then
    if (c this 6) < 0 then
      if c this (-1) = 12 then
        if c this (-1) = 12 then
          if (c this 5) < (c this 4) then
            if c this (-1) = 12 then
              zbnd (call 160 [this, 32] c) (fun _ c2 =>
                if c2 this (-1) = 12 then
                  if (c2 this 6) < 0 then
                    if c2 this (-1) = 12 then
                      zbnd (call 156 [this] c2) (fun v3 c4 =>
                        if v3 = 47 then
                          if x1 = 3 then
                            if c4 this (-1) = 12 then
                              zbnd (call 158 [this, 3] c4) (fun _ c6 =>
                                some (0, c6))
                            else none
                          else
                            if c4 this (-1) = 12 then
                              if c4 this (-1) = 12 then
                                if (zup c4 this 5 (zadd (c4 this 5) 1)) this (-1) = 12 then
                                  zbnd (call 160 [this, 32] (zup c4 this 5 (zadd (c4 this 5) 1))) (fun _ c8 =>
                                    if c8 this (-1) = 12 then
                                      if (c8 this 6) < 0 then
                                        if c8 this (-1) = 12 then
                                          zbnd (call 165 [this, zw (x1 + 1)] c8) (fun _ c10 =>
                                            K 7 [(2, this), (0, zw (x1 + 1))] [] c10)
                                        else none
                                      else
                                        K 7 [(2, this), (0, zw (x1 + 1))] [] c8
                                    else none)
                                else none
                              else none
                            else none
                        else
                          if c4 this (-1) = 12 then
                            if (c4 this 6) < 0 then
                              if c4 this (-1) = 12 then
                                zbnd (call 165 [this, x1] c4) (fun _ c12 =>
                                  K 7 [(2, this), (0, x1)] [] c12)
                              else none
                            else
                              K 7 [(2, this), (0, x1)] [] c4
                          else none)
                    else none
                  else
                    if c2 this (-1) = 12 then
                      if (c2 this 6) < 0 then
                        if c2 this (-1) = 12 then
                          zbnd (call 165 [this, x1] c2) (fun _ c14 =>
                            K 7 [(2, this), (0, x1)] [] c14)
                        else none
                      else
                        K 7 [(2, this), (0, x1)] [] c2
                    else none
                else none)
            else none
          else
            some (0, c)
        else none
      else none
    else
      some (0, c)
  else none := by rfl
theorem ze_X12_readsPage_7 (d F : Nat) (this x1 : Int) (c : zC) : zex zc_X12_readsPage zk_X12_readsPage (zrun zTab d) (F + 1) 7 [(2, this), (0, x1)] [] c =
  if c this (-1) = 12 then
    if (c this 6) < 0 then
      if c this (-1) = 12 then
        if c this (-1) = 12 then
          if (c this 5) < (c this 4) then
            if c this (-1) = 12 then
              zbnd (zrun zTab d 160 [this, 32] c) (fun _ c2 =>
                if c2 this (-1) = 12 then
                  if (c2 this 6) < 0 then
                    if c2 this (-1) = 12 then
                      zbnd (zrun zTab d 156 [this] c2) (fun v3 c4 =>
                        if v3 = 47 then
                          if x1 = 3 then
                            if c4 this (-1) = 12 then
                              zbnd (zrun zTab d 158 [this, 3] c4) (fun _ c6 =>
                                some (0, c6))
                            else none
                          else
                            if c4 this (-1) = 12 then
                              if c4 this (-1) = 12 then
                                if (zup c4 this 5 (zadd (c4 this 5) 1)) this (-1) = 12 then
                                  zbnd (zrun zTab d 160 [this, 32] (zup c4 this 5 (zadd (c4 this 5) 1))) (fun _ c8 =>
                                    if c8 this (-1) = 12 then
                                      if (c8 this 6) < 0 then
                                        if c8 this (-1) = 12 then
                                          zbnd (zrun zTab d 165 [this, zw (x1 + 1)] c8) (fun _ c10 =>
                                            zex zc_X12_readsPage zk_X12_readsPage (zrun zTab d) F 7 [(2, this), (0, zw (x1 + 1))] [] c10)
                                        else none
                                      else
                                        zex zc_X12_readsPage zk_X12_readsPage (zrun zTab d) F 7 [(2, this), (0, zw (x1 + 1))] [] c8
                                    else none)
                                else none
                              else none
                            else none
                        else
                          if c4 this (-1) = 12 then
                            if (c4 this 6) < 0 then
                              if c4 this (-1) = 12 then
                                zbnd (zrun zTab d 165 [this, x1] c4) (fun _ c12 =>
                                  zex zc_X12_readsPage zk_X12_readsPage (zrun zTab d) F 7 [(2, this), (0, x1)] [] c12)
                              else none
                            else
                              zex zc_X12_readsPage zk_X12_readsPage (zrun zTab d) F 7 [(2, this), (0, x1)] [] c4
                          else none)
                    else none
                  else
                    if c2 this (-1) = 12 then
                      if (c2 this 6) < 0 then
                        if c2 this (-1) = 12 then
                          zbnd (zrun zTab d 165 [this, x1] c2) (fun _ c14 =>
                            zex zc_X12_readsPage zk_X12_readsPage (zrun zTab d) F 7 [(2, this), (0, x1)] [] c14)
                        else none
                      else
                        zex zc_X12_readsPage zk_X12_readsPage (zrun zTab d) F 7 [(2, this), (0, x1)] [] c2
                    else none
                else none)
            else none
          else
            some (0, c)
        else none
      else none
    else
      some (0, c)
  else none := zf_X12_readsPage_7 _ _ this x1 c
set_option maxRecDepth 100000 in
theorem zf_X12_page (call : zCall) (K : zK) (this x1 : Int) (c : zC) : zseg zc_X12_page zk_X12_page call K 1000 0 [(2, this), (0, x1), (3, 0)] [] c =
  zbnd (call 141 [x1] c) (fun v1 c2 =>
    if v1 = 0 then
      some ((-1), c2)
    else
      if c2 this (-1) = 12 then
        zbnd (call 163 [this] c2) (fun _ c4 =>
          if c4 this (-1) = 12 then
            if (c4 this 4) ≤ 0 then
              K 24 [(2, this), (0, x1), (3, 0)] [] c4
            else
              if c4 this (-1) = 12 then
                zbnd (call 166 [this] c4) (fun _ c6 =>
                  K 24 [(2, this), (0, x1), (3, 0)] [] c6)
              else none
          else none)
      else none) := by rfl
theorem ze_X12_page (d : Nat) (this x1 : Int) (c : zC) : zrun zTab (d + 1) 167 [this, x1] c =
  zbnd (zrun zTab d 141 [x1] c) (fun v1 c2 =>
    if v1 = 0 then
      some ((-1), c2)
    else
      if c2 this (-1) = 12 then
        zbnd (zrun zTab d 163 [this] c2) (fun _ c4 =>
          if c4 this (-1) = 12 then
            if (c4 this 4) ≤ 0 then
              zex zc_X12_page zk_X12_page (zrun zTab d) 19999 24 [(2, this), (0, x1), (3, 0)] [] c4
            else
              if c4 this (-1) = 12 then
                zbnd (zrun zTab d 166 [this] c4) (fun _ c6 =>
                  zex zc_X12_page zk_X12_page (zrun zTab d) 19999 24 [(2, this), (0, x1), (3, 0)] [] c6)
              else none
          else none)
      else none) := (zrun_s zt167).trans (zf_X12_page _ _ this x1 c)
set_option maxRecDepth 100000 in
theorem zf_X12_page_24 (call : zCall) (K : zK) (this x1 : Int) (c : zC) : zseg zc_X12_page zk_X12_page call K 1000 24 [(2, this), (0, x1), (3, 0)] [] c =
  if c this (-1) = 12 then
    zbnd (call 164 [this] c) (fun v1 c2 =>
      if v1 = 0 then
        if c2 this (-1) = 12 then
          zbnd (call 140 [this] c2) (fun _ c4 =>
            if c4 this (-1) = 12 then
              if c4 this (-1) = 12 then
                if c4 (c4 this 0) (-1) = 100 ∧ (0 : Int) ≤ (zmul 242 x1) ∧ (zmul 242 x1) < c4 (c4 this 0) (-2) then
                  K 59 [(2, this), (0, x1), (0, 0)] [] (zup c4 (c4 this 0) (zmul 242 x1) (c4 this 10))
                else none
              else none
            else none)
        else none
      else
        if c2 this (-1) = 12 then
          some (zsub (-100) (c2 this 6), c2)
        else none)
  else none := by rfl
theorem ze_X12_page_24 (d F : Nat) (this x1 : Int) (c : zC) : zex zc_X12_page zk_X12_page (zrun zTab d) (F + 1) 24 [(2, this), (0, x1), (3, 0)] [] c =
  if c this (-1) = 12 then
    zbnd (zrun zTab d 164 [this] c) (fun v1 c2 =>
      if v1 = 0 then
        if c2 this (-1) = 12 then
          zbnd (zrun zTab d 140 [this] c2) (fun _ c4 =>
            if c4 this (-1) = 12 then
              if c4 this (-1) = 12 then
                if c4 (c4 this 0) (-1) = 100 ∧ (0 : Int) ≤ (zmul 242 x1) ∧ (zmul 242 x1) < c4 (c4 this 0) (-2) then
                  zex zc_X12_page zk_X12_page (zrun zTab d) F 59 [(2, this), (0, x1), (0, 0)] [] (zup c4 (c4 this 0) (zmul 242 x1) (c4 this 10))
                else none
              else none
            else none)
        else none
      else
        if c2 this (-1) = 12 then
          some (zsub (-100) (c2 this 6), c2)
        else none)
  else none := zf_X12_page_24 _ _ this x1 c
set_option maxRecDepth 100000 in
theorem zf_X12_page_59 (call : zCall) (K : zK) (this x1 x2 : Int) (c : zC) : zseg zc_X12_page zk_X12_page call K 1000 59 [(2, this), (0, x1), (0, x2)] [] c =
  if c this (-1) = 12 then
    if x2 < (zmul 12 (c this 10)) then
      if c this (-1) = 12 then
        zbnd (call 144 [x1, 0] c) (fun v1 c2 =>
          if c2 this (-1) = 12 then
            if c2 (c2 this 9) (-1) = 100 ∧ (0 : Int) ≤ x2 ∧ x2 < c2 (c2 this 9) (-2) then
              if c2 (c this 0) (-1) = 100 ∧ (0 : Int) ≤ (zadd v1 x2) ∧ (zadd v1 x2) < c2 (c this 0) (-2) then
                K 59 [(2, this), (0, x1), (0, zw (x2 + 1))] [] (zup c2 (c this 0) (zadd v1 x2) (c2 (c2 this 9) x2))
              else none
            else none
          else none)
      else none
    else
      if c this (-1) = 12 then
        some (c this 10, c)
      else none
  else none := by rfl
theorem ze_X12_page_59 (d F : Nat) (this x1 x2 : Int) (c : zC) : zex zc_X12_page zk_X12_page (zrun zTab d) (F + 1) 59 [(2, this), (0, x1), (0, x2)] [] c =
  if c this (-1) = 12 then
    if x2 < (zmul 12 (c this 10)) then
      if c this (-1) = 12 then
        zbnd (zrun zTab d 144 [x1, 0] c) (fun v1 c2 =>
          if c2 this (-1) = 12 then
            if c2 (c2 this 9) (-1) = 100 ∧ (0 : Int) ≤ x2 ∧ x2 < c2 (c2 this 9) (-2) then
              if c2 (c this 0) (-1) = 100 ∧ (0 : Int) ≤ (zadd v1 x2) ∧ (zadd v1 x2) < c2 (c this 0) (-2) then
                zex zc_X12_page zk_X12_page (zrun zTab d) F 59 [(2, this), (0, x1), (0, zw (x2 + 1))] [] (zup c2 (c this 0) (zadd v1 x2) (c2 (c2 this 9) x2))
              else none
            else none
          else none)
      else none
    else
      if c this (-1) = 12 then
        some (c this 10, c)
      else none
  else none := zf_X12_page_59 _ _ this x1 x2 c
set_option maxRecDepth 100000 in
theorem zf_X12_sense (call : zCall) (K : zK) (this : Int) (c : zC) : zseg zc_X12_sense zk_X12_sense call K 1000 0 [(2, this), (3, 0), (3, 0)] [] c =
  if c this (-1) = 12 then
    zbnd (call 149 [this] c) (fun v1 c2 =>
      if v1 = 8 then
        some ((-4), c2)
      else
        if c2 this (-1) = 12 then
          zbnd (call 163 [this] c2) (fun _ c4 =>
            K 18 [(2, this), (0, 0), (3, 0)] [] c4)
        else none)
  else none := by rfl
theorem ze_X12_sense (d : Nat) (this : Int) (c : zC) : zrun zTab (d + 1) 168 [this] c =
  if c this (-1) = 12 then
    zbnd (zrun zTab d 149 [this] c) (fun v1 c2 =>
      if v1 = 8 then
        some ((-4), c2)
      else
        if c2 this (-1) = 12 then
          zbnd (zrun zTab d 163 [this] c2) (fun _ c4 =>
            zex zc_X12_sense zk_X12_sense (zrun zTab d) 19999 18 [(2, this), (0, 0), (3, 0)] [] c4)
        else none)
  else none := (zrun_s zt168).trans (zf_X12_sense _ _ this c)
set_option maxRecDepth 100000 in
theorem zf_X12_sense_18 (call : zCall) (K : zK) (this x1 : Int) (c : zC) : zseg zc_X12_sense zk_X12_sense call K 1000 18 [(2, this), (0, x1), (3, 0)] [] c =
  if x1 < 57 then
    if c this (-1) = 12 then
      if c (c this 11) (-1) = 100 ∧ (0 : Int) ≤ x1 ∧ x1 < c (c this 11) (-2) then
        K 18 [(2, this), (0, zw (x1 + 1)), (3, 0)] [] (zup c (c this 11) x1 0)
      else none
    else none
  else
    if c this (-1) = 12 then
      if c (c this 11) (-1) = 100 ∧ (0 : Int) ≤ 56 ∧ 56 < c (c this 11) (-2) then
        if (zup c (c this 11) 56 (-5)) this (-1) = 12 then
          if (zup c (c this 11) 56 (-5)) this (-1) = 12 then
            zbnd (call 162 [this, (zup c (c this 11) 56 (-5)) this 11, 0] (zup c (c this 11) 56 (-5))) (fun _ c2 =>
              if c2 this (-1) = 12 then
                zbnd (call 160 [this, 58] c2) (fun _ c4 =>
                  if c4 this (-1) = 12 then
                    if (c4 this 6) < 0 then
                      if c4 this (-1) = 12 then
                        zbnd (call 157 [this] c4) (fun v5 c6 =>
                          if v5 = 0 then
                            K 81 [(2, this), (0, 0), (3, 0)] [] c6
                          else
                            K 81 [(2, this), (0, 1), (3, 0)] [] c6)
                      else none
                    else
                      K 81 [(2, this), (0, 0), (3, 0)] [] c4
                  else none)
              else none)
          else none
        else none
      else none
    else none := by rfl
theorem ze_X12_sense_18 (d F : Nat) (this x1 : Int) (c : zC) : zex zc_X12_sense zk_X12_sense (zrun zTab d) (F + 1) 18 [(2, this), (0, x1), (3, 0)] [] c =
  if x1 < 57 then
    if c this (-1) = 12 then
      if c (c this 11) (-1) = 100 ∧ (0 : Int) ≤ x1 ∧ x1 < c (c this 11) (-2) then
        zex zc_X12_sense zk_X12_sense (zrun zTab d) F 18 [(2, this), (0, zw (x1 + 1)), (3, 0)] [] (zup c (c this 11) x1 0)
      else none
    else none
  else
    if c this (-1) = 12 then
      if c (c this 11) (-1) = 100 ∧ (0 : Int) ≤ 56 ∧ 56 < c (c this 11) (-2) then
        if (zup c (c this 11) 56 (-5)) this (-1) = 12 then
          if (zup c (c this 11) 56 (-5)) this (-1) = 12 then
            zbnd (zrun zTab d 162 [this, (zup c (c this 11) 56 (-5)) this 11, 0] (zup c (c this 11) 56 (-5))) (fun _ c2 =>
              if c2 this (-1) = 12 then
                zbnd (zrun zTab d 160 [this, 58] c2) (fun _ c4 =>
                  if c4 this (-1) = 12 then
                    if (c4 this 6) < 0 then
                      if c4 this (-1) = 12 then
                        zbnd (zrun zTab d 157 [this] c4) (fun v5 c6 =>
                          if v5 = 0 then
                            zex zc_X12_sense zk_X12_sense (zrun zTab d) F 81 [(2, this), (0, 0), (3, 0)] [] c6
                          else
                            zex zc_X12_sense zk_X12_sense (zrun zTab d) F 81 [(2, this), (0, 1), (3, 0)] [] c6)
                      else none
                    else
                      zex zc_X12_sense zk_X12_sense (zrun zTab d) F 81 [(2, this), (0, 0), (3, 0)] [] c4
                  else none)
              else none)
          else none
        else none
      else none
    else none := zf_X12_sense_18 _ _ this x1 c
set_option maxRecDepth 100000 in
theorem zf_X12_sense_81 (call : zCall) (K : zK) (this x1 : Int) (c : zC) : zseg zc_X12_sense zk_X12_sense call K 1000 81 [(2, this), (0, x1), (3, 0)] [] c =
  if x1 = 0 then
    if c this (-1) = 12 then
      zbnd (call 159 [this, 64] c) (fun v1 c2 =>
        if v1 = 0 then
          if c2 this (-1) = 12 then
            zbnd (call 164 [this] c2) (fun v3 c4 =>
              if v3 = 0 then
                if c4 this (-1) = 12 then
                  zbnd (call 140 [this] c4) (fun _ c6 =>
                    K 230 [(2, this), (3, 0), (0, 0)] [] c6)
                else none
              else
                if c4 this (-1) = 12 then
                  some (zsub (-100) (c4 this 6), c4)
                else none)
          else none
        else
          if c2 this (-1) = 12 then
            zbnd (call 156 [this] c2) (fun v7 c8 =>
              zbnd (call 138 [v7, 48, 51] c8) (fun v9 c10 =>
                if v9 = 0 then
                  if c10 this (-1) = 12 then
                    zbnd (call 158 [this, 1] c10) (fun _ c12 =>
                      K 185 [(2, this), (3, 0), (3, 0)] [] c12)
                  else none
                else
                  K 185 [(2, this), (3, 0), (3, 0)] [] c10))
          else none)
    else none
  else
    if c this (-1) = 12 then
      if c (c this 11) (-1) = 100 ∧ (0 : Int) ≤ 11 ∧ 11 < c (c this 11) (-2) then
        if (c (c this 11) 11) = 4 then
          if c this (-1) = 12 then
            zbnd (call 157 [this] c) (fun v13 c14 =>
              if v13 = 0 then
                K 108 [(2, this), (3, 0), (3, 0)] [] c14
              else
                if c14 this (-1) = 12 then
                  zbnd (call 158 [this, 3] c14) (fun _ c16 =>
                    K 108 [(2, this), (3, 0), (3, 0)] [] c16)
                else none)
          else none
        else
          K 108 [(2, this), (3, 0), (3, 0)] [] c
      else none
    else none := by rfl
theorem ze_X12_sense_81 (d F : Nat) (this x1 : Int) (c : zC) : zex zc_X12_sense zk_X12_sense (zrun zTab d) (F + 1) 81 [(2, this), (0, x1), (3, 0)] [] c =
  if x1 = 0 then
    if c this (-1) = 12 then
      zbnd (zrun zTab d 159 [this, 64] c) (fun v1 c2 =>
        if v1 = 0 then
          if c2 this (-1) = 12 then
            zbnd (zrun zTab d 164 [this] c2) (fun v3 c4 =>
              if v3 = 0 then
                if c4 this (-1) = 12 then
                  zbnd (zrun zTab d 140 [this] c4) (fun _ c6 =>
                    zex zc_X12_sense zk_X12_sense (zrun zTab d) F 230 [(2, this), (3, 0), (0, 0)] [] c6)
                else none
              else
                if c4 this (-1) = 12 then
                  some (zsub (-100) (c4 this 6), c4)
                else none)
          else none
        else
          if c2 this (-1) = 12 then
            zbnd (zrun zTab d 156 [this] c2) (fun v7 c8 =>
              zbnd (zrun zTab d 138 [v7, 48, 51] c8) (fun v9 c10 =>
                if v9 = 0 then
                  if c10 this (-1) = 12 then
                    zbnd (zrun zTab d 158 [this, 1] c10) (fun _ c12 =>
                      zex zc_X12_sense zk_X12_sense (zrun zTab d) F 185 [(2, this), (3, 0), (3, 0)] [] c12)
                  else none
                else
                  zex zc_X12_sense zk_X12_sense (zrun zTab d) F 185 [(2, this), (3, 0), (3, 0)] [] c10))
          else none)
    else none
  else
    if c this (-1) = 12 then
      if c (c this 11) (-1) = 100 ∧ (0 : Int) ≤ 11 ∧ 11 < c (c this 11) (-2) then
        if (c (c this 11) 11) = 4 then
          if c this (-1) = 12 then
            zbnd (zrun zTab d 157 [this] c) (fun v13 c14 =>
              if v13 = 0 then
                zex zc_X12_sense zk_X12_sense (zrun zTab d) F 108 [(2, this), (3, 0), (3, 0)] [] c14
              else
                if c14 this (-1) = 12 then
                  zbnd (zrun zTab d 158 [this, 3] c14) (fun _ c16 =>
                    zex zc_X12_sense zk_X12_sense (zrun zTab d) F 108 [(2, this), (3, 0), (3, 0)] [] c16)
                else none)
          else none
        else
          zex zc_X12_sense zk_X12_sense (zrun zTab d) F 108 [(2, this), (3, 0), (3, 0)] [] c
      else none
    else none := zf_X12_sense_81 _ _ this x1 c
set_option maxRecDepth 100000 in
theorem zf_X12_sense_108 (call : zCall) (K : zK) (this : Int) (c : zC) : zseg zc_X12_sense zk_X12_sense call K 1000 108 [(2, this), (3, 0), (3, 0)] [] c =
  if c this (-1) = 12 then
    if (c this 6) < 0 then
      if c this (-1) = 12 then
        if c this (-1) = 12 then
          if c (c this 11) (-1) = 100 ∧ (0 : Int) ≤ 11 ∧ 11 < c (c this 11) (-2) then
            if c this (-1) = 12 then
              zbnd (call 162 [this, c this 11, zadd 12 (zmul 11 (c (c this 11) 11))] c) (fun _ c2 =>
                if c2 this (-1) = 12 then
                  if c2 (c2 this 11) (-1) = 100 ∧ (0 : Int) ≤ 11 ∧ 11 < c2 (c2 this 11) (-2) then
                    if c2 (c2 this 11) (-1) = 100 ∧ (0 : Int) ≤ 11 ∧ 11 < c2 (c2 this 11) (-2) then
                      if (zup c2 (c2 this 11) 11 (zadd (c2 (c2 this 11) 11) 1)) this (-1) = 12 then
                        zbnd (call 159 [this, 44] (zup c2 (c2 this 11) 11 (zadd (c2 (c2 this 11) 11) 1))) (fun v3 c4 =>
                          K 81 [(2, this), (0, v3), (3, 0)] [] c4)
                      else none
                    else none
                  else none
                else none)
            else none
          else none
        else none
      else none
    else
      if c this (-1) = 12 then
        zbnd (call 159 [this, 44] c) (fun v5 c6 =>
          K 81 [(2, this), (0, v5), (3, 0)] [] c6)
      else none
  else none := by rfl
theorem ze_X12_sense_108 (d F : Nat) (this : Int) (c : zC) : zex zc_X12_sense zk_X12_sense (zrun zTab d) (F + 1) 108 [(2, this), (3, 0), (3, 0)] [] c =
  if c this (-1) = 12 then
    if (c this 6) < 0 then
      if c this (-1) = 12 then
        if c this (-1) = 12 then
          if c (c this 11) (-1) = 100 ∧ (0 : Int) ≤ 11 ∧ 11 < c (c this 11) (-2) then
            if c this (-1) = 12 then
              zbnd (zrun zTab d 162 [this, c this 11, zadd 12 (zmul 11 (c (c this 11) 11))] c) (fun _ c2 =>
                if c2 this (-1) = 12 then
                  if c2 (c2 this 11) (-1) = 100 ∧ (0 : Int) ≤ 11 ∧ 11 < c2 (c2 this 11) (-2) then
                    if c2 (c2 this 11) (-1) = 100 ∧ (0 : Int) ≤ 11 ∧ 11 < c2 (c2 this 11) (-2) then
                      if (zup c2 (c2 this 11) 11 (zadd (c2 (c2 this 11) 11) 1)) this (-1) = 12 then
                        zbnd (zrun zTab d 159 [this, 44] (zup c2 (c2 this 11) 11 (zadd (c2 (c2 this 11) 11) 1))) (fun v3 c4 =>
                          zex zc_X12_sense zk_X12_sense (zrun zTab d) F 81 [(2, this), (0, v3), (3, 0)] [] c4)
                      else none
                    else none
                  else none
                else none)
            else none
          else none
        else none
      else none
    else
      if c this (-1) = 12 then
        zbnd (zrun zTab d 159 [this, 44] c) (fun v5 c6 =>
          zex zc_X12_sense zk_X12_sense (zrun zTab d) F 81 [(2, this), (0, v5), (3, 0)] [] c6)
      else none
  else none := zf_X12_sense_108 _ _ this c
set_option maxRecDepth 100000 in
theorem zf_X12_sense_185 (call : zCall) (K : zK) (this : Int) (c : zC) : zseg zc_X12_sense zk_X12_sense call K 1000 185 [(2, this), (3, 0), (3, 0)] [] c =
  if c this (-1) = 12 then
    if c this (-1) = 12 then
      zbnd (call 156 [this] c) (fun v1 c2 =>
        if c2 (c this 11) (-1) = 100 ∧ (0 : Int) ≤ 56 ∧ 56 < c2 (c this 11) (-2) then
          if (zup c2 (c this 11) 56 (zsub v1 48)) this (-1) = 12 then
            if (zup c2 (c this 11) 56 (zsub v1 48)) this (-1) = 12 then
              if (zup (zup c2 (c this 11) 56 (zsub v1 48)) this 5 (zadd ((zup c2 (c this 11) 56 (zsub v1 48)) this 5) 1)) this (-1) = 12 then
                zbnd (call 164 [this] (zup (zup c2 (c this 11) 56 (zsub v1 48)) this 5 (zadd ((zup c2 (c this 11) 56 (zsub v1 48)) this 5) 1))) (fun v3 c4 =>
                  if v3 = 0 then
                    if c4 this (-1) = 12 then
                      zbnd (call 140 [this] c4) (fun _ c6 =>
                        K 230 [(2, this), (3, 0), (0, 0)] [] c6)
                    else none
                  else
                    if c4 this (-1) = 12 then
                      some (zsub (-100) (c4 this 6), c4)
                    else none)
              else none
            else none
          else none
        else none)
    else none
  else none := by rfl
theorem ze_X12_sense_185 (d F : Nat) (this : Int) (c : zC) : zex zc_X12_sense zk_X12_sense (zrun zTab d) (F + 1) 185 [(2, this), (3, 0), (3, 0)] [] c =
  if c this (-1) = 12 then
    if c this (-1) = 12 then
      zbnd (zrun zTab d 156 [this] c) (fun v1 c2 =>
        if c2 (c this 11) (-1) = 100 ∧ (0 : Int) ≤ 56 ∧ 56 < c2 (c this 11) (-2) then
          if (zup c2 (c this 11) 56 (zsub v1 48)) this (-1) = 12 then
            if (zup c2 (c this 11) 56 (zsub v1 48)) this (-1) = 12 then
              if (zup (zup c2 (c this 11) 56 (zsub v1 48)) this 5 (zadd ((zup c2 (c this 11) 56 (zsub v1 48)) this 5) 1)) this (-1) = 12 then
                zbnd (zrun zTab d 164 [this] (zup (zup c2 (c this 11) 56 (zsub v1 48)) this 5 (zadd ((zup c2 (c this 11) 56 (zsub v1 48)) this 5) 1))) (fun v3 c4 =>
                  if v3 = 0 then
                    if c4 this (-1) = 12 then
                      zbnd (zrun zTab d 140 [this] c4) (fun _ c6 =>
                        zex zc_X12_sense zk_X12_sense (zrun zTab d) F 230 [(2, this), (3, 0), (0, 0)] [] c6)
                    else none
                  else
                    if c4 this (-1) = 12 then
                      some (zsub (-100) (c4 this 6), c4)
                    else none)
              else none
            else none
          else none
        else none)
    else none
  else none := zf_X12_sense_185 _ _ this c
set_option maxRecDepth 100000 in
theorem zf_X12_sense_230 (call : zCall) (K : zK) (this x2 : Int) (c : zC) : zseg zc_X12_sense zk_X12_sense call K 1000 230 [(2, this), (3, 0), (0, x2)] [] c =
  if x2 < 57 then
    if c this (-1) = 12 then
      if c this (-1) = 12 then
        zbnd (call 149 [this] c) (fun v1 c2 =>
          zbnd (call 151 [v1] c2) (fun v3 c4 =>
            if c4 this (-1) = 12 then
              if c4 (c4 this 11) (-1) = 100 ∧ (0 : Int) ≤ x2 ∧ x2 < c4 (c4 this 11) (-2) then
                if c4 (c this 0) (-1) = 100 ∧ (0 : Int) ≤ (zadd v3 x2) ∧ (zadd v3 x2) < c4 (c this 0) (-2) then
                  K 230 [(2, this), (3, 0), (0, zw (x2 + 1))] [] (zup c4 (c this 0) (zadd v3 x2) (c4 (c4 this 11) x2))
                else none
              else none
            else none))
      else none
    else none
  else
    if c this (-1) = 12 then
      if c (c this 0) (-1) = 100 ∧ (0 : Int) ≤ 1023 ∧ 1023 < c (c this 0) (-2) then
        if c (c this 0) (-1) = 100 ∧ (0 : Int) ≤ 1023 ∧ 1023 < c (c this 0) (-2) then
          if (zup c (c this 0) 1023 (zadd (c (c this 0) 1023) 1)) this (-1) = 12 then
            zbnd (call 149 [this] (zup c (c this 0) 1023 (zadd (c (c this 0) 1023) 1))) (fun v5 c6 =>
              some (zsub v5 1, c6))
          else none
        else none
      else none
    else none := by rfl
theorem ze_X12_sense_230 (d F : Nat) (this x2 : Int) (c : zC) : zex zc_X12_sense zk_X12_sense (zrun zTab d) (F + 1) 230 [(2, this), (3, 0), (0, x2)] [] c =
  if x2 < 57 then
    if c this (-1) = 12 then
      if c this (-1) = 12 then
        zbnd (zrun zTab d 149 [this] c) (fun v1 c2 =>
          zbnd (zrun zTab d 151 [v1] c2) (fun v3 c4 =>
            if c4 this (-1) = 12 then
              if c4 (c4 this 11) (-1) = 100 ∧ (0 : Int) ≤ x2 ∧ x2 < c4 (c4 this 11) (-2) then
                if c4 (c this 0) (-1) = 100 ∧ (0 : Int) ≤ (zadd v3 x2) ∧ (zadd v3 x2) < c4 (c this 0) (-2) then
                  zex zc_X12_sense zk_X12_sense (zrun zTab d) F 230 [(2, this), (3, 0), (0, zw (x2 + 1))] [] (zup c4 (c this 0) (zadd v3 x2) (c4 (c4 this 11) x2))
                else none
              else none
            else none))
      else none
    else none
  else
    if c this (-1) = 12 then
      if c (c this 0) (-1) = 100 ∧ (0 : Int) ≤ 1023 ∧ 1023 < c (c this 0) (-2) then
        if c (c this 0) (-1) = 100 ∧ (0 : Int) ≤ 1023 ∧ 1023 < c (c this 0) (-2) then
          if (zup c (c this 0) 1023 (zadd (c (c this 0) 1023) 1)) this (-1) = 12 then
            zbnd (zrun zTab d 149 [this] (zup c (c this 0) 1023 (zadd (c (c this 0) 1023) 1))) (fun v5 c6 =>
              some (zsub v5 1, c6))
          else none
        else none
      else none
    else none := zf_X12_sense_230 _ _ this x2 c
set_option maxRecDepth 100000 in
theorem zf_X12_rule (call : zCall) (K : zK) (this : Int) (c : zC) : zseg zc_X12_rule zk_X12_rule call K 1000 0 [(2, this), (3, 0)] [] c =
  if c this (-1) = 12 then
    zbnd (call 148 [this] c) (fun v1 c2 =>
      if v1 = 6 then
        some ((-4), c2)
      else
        if c2 this (-1) = 12 then
          zbnd (call 163 [this] c2) (fun _ c4 =>
            K 18 [(2, this), (0, 0)] [] c4)
        else none)
  else none := by rfl
theorem ze_X12_rule (d : Nat) (this : Int) (c : zC) : zrun zTab (d + 1) 169 [this] c =
  if c this (-1) = 12 then
    zbnd (zrun zTab d 148 [this] c) (fun v1 c2 =>
      if v1 = 6 then
        some ((-4), c2)
      else
        if c2 this (-1) = 12 then
          zbnd (zrun zTab d 163 [this] c2) (fun _ c4 =>
            zex zc_X12_rule zk_X12_rule (zrun zTab d) 19999 18 [(2, this), (0, 0)] [] c4)
        else none)
  else none := (zrun_s zt169).trans (zf_X12_rule _ _ this c)
set_option maxRecDepth 100000 in
theorem zf_X12_rule_18 (call : zCall) (K : zK) (this x1 : Int) (c : zC) : zseg zc_X12_rule zk_X12_rule call K 1000 18 [(2, this), (0, x1)] [] c =
  if x1 < 9 then
    if c this (-1) = 12 then
      if c (c this 11) (-1) = 100 ∧ (0 : Int) ≤ x1 ∧ x1 < c (c this 11) (-2) then
        K 18 [(2, this), (0, zw (x1 + 1))] [] (zup c (c this 11) x1 0)
      else none
    else none
  else
    if c this (-1) = 12 then
      zbnd (call 157 [this] c) (fun v1 c2 =>
        if v1 = 0 then
          if c2 this (-1) = 12 then
            zbnd (call 158 [this, 1] c2) (fun _ c4 =>
              K 49 [(2, this), (3, 0)] [] c4)
          else none
        else
          K 49 [(2, this), (3, 0)] [] c2)
    else none := by rfl
theorem ze_X12_rule_18 (d F : Nat) (this x1 : Int) (c : zC) : zex zc_X12_rule zk_X12_rule (zrun zTab d) (F + 1) 18 [(2, this), (0, x1)] [] c =
  if x1 < 9 then
    if c this (-1) = 12 then
      if c (c this 11) (-1) = 100 ∧ (0 : Int) ≤ x1 ∧ x1 < c (c this 11) (-2) then
        zex zc_X12_rule zk_X12_rule (zrun zTab d) F 18 [(2, this), (0, zw (x1 + 1))] [] (zup c (c this 11) x1 0)
      else none
    else none
  else
    if c this (-1) = 12 then
      zbnd (zrun zTab d 157 [this] c) (fun v1 c2 =>
        if v1 = 0 then
          if c2 this (-1) = 12 then
            zbnd (zrun zTab d 158 [this, 1] c2) (fun _ c4 =>
              zex zc_X12_rule zk_X12_rule (zrun zTab d) F 49 [(2, this), (3, 0)] [] c4)
          else none
        else
          zex zc_X12_rule zk_X12_rule (zrun zTab d) F 49 [(2, this), (3, 0)] [] c2)
    else none := zf_X12_rule_18 _ _ this x1 c
set_option maxRecDepth 100000 in
theorem zf_X12_rule_49 (call : zCall) (K : zK) (this : Int) (c : zC) : zseg zc_X12_rule zk_X12_rule call K 1000 49 [(2, this), (3, 0)] [] c =
  if c this (-1) = 12 then
    if c this (-1) = 12 then
      if c this (-1) = 12 then
        zbnd (call 161 [this, c this 11, 1, 4] c) (fun v1 c2 =>
          if c2 (c this 11) (-1) = 100 ∧ (0 : Int) ≤ 0 ∧ 0 < c2 (c this 11) (-2) then
            if (zup c2 (c this 11) 0 v1) this (-1) = 12 then
              zbnd (call 160 [this, 62] (zup c2 (c this 11) 0 v1)) (fun _ c4 =>
                if c4 this (-1) = 12 then
                  if c4 this (-1) = 12 then
                    if c4 this (-1) = 12 then
                      zbnd (call 161 [this, c4 this 11, 6, 3] c4) (fun v5 c6 =>
                        if c6 (c4 this 11) (-1) = 100 ∧ (0 : Int) ≤ 5 ∧ 5 < c6 (c4 this 11) (-2) then
                          if (zup c6 (c4 this 11) 5 v5) this (-1) = 12 then
                            zbnd (call 164 [this] (zup c6 (c4 this 11) 5 v5)) (fun v7 c8 =>
                              if v7 = 0 then
                                if c8 this (-1) = 12 then
                                  zbnd (call 140 [this] c8) (fun _ c10 =>
                                    K 109 [(2, this), (0, 0)] [] c10)
                                else none
                              else
                                if c8 this (-1) = 12 then
                                  some (zsub (-100) (c8 this 6), c8)
                                else none)
                          else none
                        else none)
                    else none
                  else none
                else none)
            else none
          else none)
      else none
    else none
  else none := by rfl
theorem ze_X12_rule_49 (d F : Nat) (this : Int) (c : zC) : zex zc_X12_rule zk_X12_rule (zrun zTab d) (F + 1) 49 [(2, this), (3, 0)] [] c =
  if c this (-1) = 12 then
    if c this (-1) = 12 then
      if c this (-1) = 12 then
        zbnd (zrun zTab d 161 [this, c this 11, 1, 4] c) (fun v1 c2 =>
          if c2 (c this 11) (-1) = 100 ∧ (0 : Int) ≤ 0 ∧ 0 < c2 (c this 11) (-2) then
            if (zup c2 (c this 11) 0 v1) this (-1) = 12 then
              zbnd (zrun zTab d 160 [this, 62] (zup c2 (c this 11) 0 v1)) (fun _ c4 =>
                if c4 this (-1) = 12 then
                  if c4 this (-1) = 12 then
                    if c4 this (-1) = 12 then
                      zbnd (zrun zTab d 161 [this, c4 this 11, 6, 3] c4) (fun v5 c6 =>
                        if c6 (c4 this 11) (-1) = 100 ∧ (0 : Int) ≤ 5 ∧ 5 < c6 (c4 this 11) (-2) then
                          if (zup c6 (c4 this 11) 5 v5) this (-1) = 12 then
                            zbnd (zrun zTab d 164 [this] (zup c6 (c4 this 11) 5 v5)) (fun v7 c8 =>
                              if v7 = 0 then
                                if c8 this (-1) = 12 then
                                  zbnd (zrun zTab d 140 [this] c8) (fun _ c10 =>
                                    zex zc_X12_rule zk_X12_rule (zrun zTab d) F 109 [(2, this), (0, 0)] [] c10)
                                else none
                              else
                                if c8 this (-1) = 12 then
                                  some (zsub (-100) (c8 this 6), c8)
                                else none)
                          else none
                        else none)
                    else none
                  else none
                else none)
            else none
          else none)
      else none
    else none
  else none := zf_X12_rule_49 _ _ this c
set_option maxRecDepth 100000 in
theorem zf_X12_rule_109 (call : zCall) (K : zK) (this x1 : Int) (c : zC) : zseg zc_X12_rule zk_X12_rule call K 1000 109 [(2, this), (0, x1)] [] c =
  if x1 < 9 then
    if c this (-1) = 12 then
      if c this (-1) = 12 then
        zbnd (call 148 [this] c) (fun v1 c2 =>
          zbnd (call 150 [v1] c2) (fun v3 c4 =>
            if c4 this (-1) = 12 then
              if c4 (c4 this 11) (-1) = 100 ∧ (0 : Int) ≤ x1 ∧ x1 < c4 (c4 this 11) (-2) then
                if c4 (c this 0) (-1) = 100 ∧ (0 : Int) ≤ (zadd v3 x1) ∧ (zadd v3 x1) < c4 (c this 0) (-2) then
                  K 109 [(2, this), (0, zw (x1 + 1))] [] (zup c4 (c this 0) (zadd v3 x1) (c4 (c4 this 11) x1))
                else none
              else none
            else none))
      else none
    else none
  else
    if c this (-1) = 12 then
      if c (c this 0) (-1) = 100 ∧ (0 : Int) ≤ 968 ∧ 968 < c (c this 0) (-2) then
        if c (c this 0) (-1) = 100 ∧ (0 : Int) ≤ 968 ∧ 968 < c (c this 0) (-2) then
          if (zup c (c this 0) 968 (zadd (c (c this 0) 968) 1)) this (-1) = 12 then
            zbnd (call 148 [this] (zup c (c this 0) 968 (zadd (c (c this 0) 968) 1))) (fun v5 c6 =>
              some (zsub v5 1, c6))
          else none
        else none
      else none
    else none := by rfl
theorem ze_X12_rule_109 (d F : Nat) (this x1 : Int) (c : zC) : zex zc_X12_rule zk_X12_rule (zrun zTab d) (F + 1) 109 [(2, this), (0, x1)] [] c =
  if x1 < 9 then
    if c this (-1) = 12 then
      if c this (-1) = 12 then
        zbnd (zrun zTab d 148 [this] c) (fun v1 c2 =>
          zbnd (zrun zTab d 150 [v1] c2) (fun v3 c4 =>
            if c4 this (-1) = 12 then
              if c4 (c4 this 11) (-1) = 100 ∧ (0 : Int) ≤ x1 ∧ x1 < c4 (c4 this 11) (-2) then
                if c4 (c this 0) (-1) = 100 ∧ (0 : Int) ≤ (zadd v3 x1) ∧ (zadd v3 x1) < c4 (c this 0) (-2) then
                  zex zc_X12_rule zk_X12_rule (zrun zTab d) F 109 [(2, this), (0, zw (x1 + 1))] [] (zup c4 (c this 0) (zadd v3 x1) (c4 (c4 this 11) x1))
                else none
              else none
            else none))
      else none
    else none
  else
    if c this (-1) = 12 then
      if c (c this 0) (-1) = 100 ∧ (0 : Int) ≤ 968 ∧ 968 < c (c this 0) (-2) then
        if c (c this 0) (-1) = 100 ∧ (0 : Int) ≤ 968 ∧ 968 < c (c this 0) (-2) then
          if (zup c (c this 0) 968 (zadd (c (c this 0) 968) 1)) this (-1) = 12 then
            zbnd (zrun zTab d 148 [this] (zup c (c this 0) 968 (zadd (c (c this 0) 968) 1))) (fun v5 c6 =>
              some (zsub v5 1, c6))
          else none
        else none
      else none
    else none := zf_X12_rule_109 _ _ this x1 c
set_option maxRecDepth 100000 in
theorem zf_X12_removeSense (call : zCall) (K : zK) (this x1 : Int) (c : zC) : zseg zc_X12_removeSense zk_X12_removeSense call K 1000 0 [(2, this), (0, x1), (3, 0)] [] c =
  if c this (-1) = 12 then
    zbnd (call 149 [this] c) (fun v1 c2 =>
      zbnd (call 138 [x1, 0, zsub v1 1] c2) (fun v3 c4 =>
        if v3 = 0 then
          some ((-1), c4)
        else
          if c4 this (-1) = 12 then
            zbnd (call 140 [this] c4) (fun _ c6 =>
              if c6 this (-1) = 12 then
                if c6 (c6 this 0) (-1) = 100 ∧ (0 : Int) ≤ 1023 ∧ 1023 < c6 (c6 this 0) (-2) then
                  if c6 (c6 this 0) (-1) = 100 ∧ (0 : Int) ≤ 1023 ∧ 1023 < c6 (c6 this 0) (-2) then
                    zbnd (call 151 [x1] (zup c6 (c6 this 0) 1023 (zsub (c6 (c6 this 0) 1023) 1))) (fun v7 c8 =>
                      K 37 [(2, this), (3, 0), (0, v7)] [] c8)
                  else none
                else none
              else none)
          else none))
  else none := by rfl
theorem ze_X12_removeSense (d : Nat) (this x1 : Int) (c : zC) : zrun zTab (d + 1) 170 [this, x1] c =
  if c this (-1) = 12 then
    zbnd (zrun zTab d 149 [this] c) (fun v1 c2 =>
      zbnd (zrun zTab d 138 [x1, 0, zsub v1 1] c2) (fun v3 c4 =>
        if v3 = 0 then
          some ((-1), c4)
        else
          if c4 this (-1) = 12 then
            zbnd (zrun zTab d 140 [this] c4) (fun _ c6 =>
              if c6 this (-1) = 12 then
                if c6 (c6 this 0) (-1) = 100 ∧ (0 : Int) ≤ 1023 ∧ 1023 < c6 (c6 this 0) (-2) then
                  if c6 (c6 this 0) (-1) = 100 ∧ (0 : Int) ≤ 1023 ∧ 1023 < c6 (c6 this 0) (-2) then
                    zbnd (zrun zTab d 151 [x1] (zup c6 (c6 this 0) 1023 (zsub (c6 (c6 this 0) 1023) 1))) (fun v7 c8 =>
                      zex zc_X12_removeSense zk_X12_removeSense (zrun zTab d) 19999 37 [(2, this), (3, 0), (0, v7)] [] c8)
                  else none
                else none
              else none)
          else none))
  else none := (zrun_s zt170).trans (zf_X12_removeSense _ _ this x1 c)
set_option maxRecDepth 100000 in
theorem zf_X12_removeSense_37 (call : zCall) (K : zK) (this x2 : Int) (c : zC) : zseg zc_X12_removeSense zk_X12_removeSense call K 1000 37 [(2, this), (3, 0), (0, x2)] [] c =
  if c this (-1) = 12 then
    zbnd (call 149 [this] c) (fun v1 c2 =>
      zbnd (call 151 [v1] c2) (fun v3 c4 =>
        if x2 < v3 then
          if c4 this (-1) = 12 then
            if c4 this (-1) = 12 then
              if c4 (c4 this 0) (-1) = 100 ∧ (0 : Int) ≤ (zadd x2 57) ∧ (zadd x2 57) < c4 (c4 this 0) (-2) then
                if c4 (c4 this 0) (-1) = 100 ∧ (0 : Int) ≤ x2 ∧ x2 < c4 (c4 this 0) (-2) then
                  K 37 [(2, this), (3, 0), (0, zw (x2 + 1))] [] (zup c4 (c4 this 0) x2 (c4 (c4 this 0) (zadd x2 57)))
                else none
              else none
            else none
          else none
        else
          if c4 this (-1) = 12 then
            zbnd (call 149 [this] c4) (fun v5 c6 =>
              some (v5, c6))
          else none))
  else none := by rfl
theorem ze_X12_removeSense_37 (d F : Nat) (this x2 : Int) (c : zC) : zex zc_X12_removeSense zk_X12_removeSense (zrun zTab d) (F + 1) 37 [(2, this), (3, 0), (0, x2)] [] c =
  if c this (-1) = 12 then
    zbnd (zrun zTab d 149 [this] c) (fun v1 c2 =>
      zbnd (zrun zTab d 151 [v1] c2) (fun v3 c4 =>
        if x2 < v3 then
          if c4 this (-1) = 12 then
            if c4 this (-1) = 12 then
              if c4 (c4 this 0) (-1) = 100 ∧ (0 : Int) ≤ (zadd x2 57) ∧ (zadd x2 57) < c4 (c4 this 0) (-2) then
                if c4 (c4 this 0) (-1) = 100 ∧ (0 : Int) ≤ x2 ∧ x2 < c4 (c4 this 0) (-2) then
                  zex zc_X12_removeSense zk_X12_removeSense (zrun zTab d) F 37 [(2, this), (3, 0), (0, zw (x2 + 1))] [] (zup c4 (c4 this 0) x2 (c4 (c4 this 0) (zadd x2 57)))
                else none
              else none
            else none
          else none
        else
          if c4 this (-1) = 12 then
            zbnd (zrun zTab d 149 [this] c4) (fun v5 c6 =>
              some (v5, c6))
          else none))
  else none := zf_X12_removeSense_37 _ _ this x2 c
set_option maxRecDepth 100000 in
theorem zf_X12_removeRule (call : zCall) (K : zK) (this x1 : Int) (c : zC) : zseg zc_X12_removeRule zk_X12_removeRule call K 1000 0 [(2, this), (0, x1), (3, 0)] [] c =
  if c this (-1) = 12 then
    zbnd (call 148 [this] c) (fun v1 c2 =>
      zbnd (call 138 [x1, 0, zsub v1 1] c2) (fun v3 c4 =>
        if v3 = 0 then
          some ((-1), c4)
        else
          if c4 this (-1) = 12 then
            zbnd (call 140 [this] c4) (fun _ c6 =>
              if c6 this (-1) = 12 then
                if c6 (c6 this 0) (-1) = 100 ∧ (0 : Int) ≤ 968 ∧ 968 < c6 (c6 this 0) (-2) then
                  if c6 (c6 this 0) (-1) = 100 ∧ (0 : Int) ≤ 968 ∧ 968 < c6 (c6 this 0) (-2) then
                    zbnd (call 150 [x1] (zup c6 (c6 this 0) 968 (zsub (c6 (c6 this 0) 968) 1))) (fun v7 c8 =>
                      K 37 [(2, this), (3, 0), (0, v7)] [] c8)
                  else none
                else none
              else none)
          else none))
  else none := by rfl
theorem ze_X12_removeRule (d : Nat) (this x1 : Int) (c : zC) : zrun zTab (d + 1) 171 [this, x1] c =
  if c this (-1) = 12 then
    zbnd (zrun zTab d 148 [this] c) (fun v1 c2 =>
      zbnd (zrun zTab d 138 [x1, 0, zsub v1 1] c2) (fun v3 c4 =>
        if v3 = 0 then
          some ((-1), c4)
        else
          if c4 this (-1) = 12 then
            zbnd (zrun zTab d 140 [this] c4) (fun _ c6 =>
              if c6 this (-1) = 12 then
                if c6 (c6 this 0) (-1) = 100 ∧ (0 : Int) ≤ 968 ∧ 968 < c6 (c6 this 0) (-2) then
                  if c6 (c6 this 0) (-1) = 100 ∧ (0 : Int) ≤ 968 ∧ 968 < c6 (c6 this 0) (-2) then
                    zbnd (zrun zTab d 150 [x1] (zup c6 (c6 this 0) 968 (zsub (c6 (c6 this 0) 968) 1))) (fun v7 c8 =>
                      zex zc_X12_removeRule zk_X12_removeRule (zrun zTab d) 19999 37 [(2, this), (3, 0), (0, v7)] [] c8)
                  else none
                else none
              else none)
          else none))
  else none := (zrun_s zt171).trans (zf_X12_removeRule _ _ this x1 c)
set_option maxRecDepth 100000 in
theorem zf_X12_removeRule_37 (call : zCall) (K : zK) (this x2 : Int) (c : zC) : zseg zc_X12_removeRule zk_X12_removeRule call K 1000 37 [(2, this), (3, 0), (0, x2)] [] c =
  if c this (-1) = 12 then
    zbnd (call 148 [this] c) (fun v1 c2 =>
      zbnd (call 150 [v1] c2) (fun v3 c4 =>
        if x2 < v3 then
          if c4 this (-1) = 12 then
            if c4 this (-1) = 12 then
              if c4 (c4 this 0) (-1) = 100 ∧ (0 : Int) ≤ (zadd x2 9) ∧ (zadd x2 9) < c4 (c4 this 0) (-2) then
                if c4 (c4 this 0) (-1) = 100 ∧ (0 : Int) ≤ x2 ∧ x2 < c4 (c4 this 0) (-2) then
                  K 37 [(2, this), (3, 0), (0, zw (x2 + 1))] [] (zup c4 (c4 this 0) x2 (c4 (c4 this 0) (zadd x2 9)))
                else none
              else none
            else none
          else none
        else
          if c4 this (-1) = 12 then
            zbnd (call 148 [this] c4) (fun v5 c6 =>
              some (v5, c6))
          else none))
  else none := by rfl
theorem ze_X12_removeRule_37 (d F : Nat) (this x2 : Int) (c : zC) : zex zc_X12_removeRule zk_X12_removeRule (zrun zTab d) (F + 1) 37 [(2, this), (3, 0), (0, x2)] [] c =
  if c this (-1) = 12 then
    zbnd (zrun zTab d 148 [this] c) (fun v1 c2 =>
      zbnd (zrun zTab d 150 [v1] c2) (fun v3 c4 =>
        if x2 < v3 then
          if c4 this (-1) = 12 then
            if c4 this (-1) = 12 then
              if c4 (c4 this 0) (-1) = 100 ∧ (0 : Int) ≤ (zadd x2 9) ∧ (zadd x2 9) < c4 (c4 this 0) (-2) then
                if c4 (c4 this 0) (-1) = 100 ∧ (0 : Int) ≤ x2 ∧ x2 < c4 (c4 this 0) (-2) then
                  zex zc_X12_removeRule zk_X12_removeRule (zrun zTab d) F 37 [(2, this), (3, 0), (0, zw (x2 + 1))] [] (zup c4 (c4 this 0) x2 (c4 (c4 this 0) (zadd x2 9)))
                else none
              else none
            else none
          else none
        else
          if c4 this (-1) = 12 then
            zbnd (zrun zTab d 148 [this] c4) (fun v5 c6 =>
              some (v5, c6))
          else none))
  else none := zf_X12_removeRule_37 _ _ this x2 c
set_option maxRecDepth 100000 in
theorem zf_X12_parameter (call : zCall) (K : zK) (this x1 x2 : Int) (c : zC) : zseg zc_X12_parameter zk_X12_parameter call K 1000 0 [(2, this), (0, x1), (0, x2), (3, 0)] [] c =
  zbnd (call 138 [x1, 0, 1] c) (fun v1 c2 =>
    if v1 = 0 then
      some ((-1), c2)
    else
      if x1 = 0 then
        K 24 [(2, this), (0, x1), (0, x2), (3, 0)] [(0, 8), (0, 0), (0, x2)] c2
      else
        K 24 [(2, this), (0, x1), (0, x2), (3, 0)] [(0, 9), (0, 0), (0, x2)] c2) := by rfl
theorem ze_X12_parameter (d : Nat) (this x1 x2 : Int) (c : zC) : zrun zTab (d + 1) 172 [this, x1, x2] c =
  zbnd (zrun zTab d 138 [x1, 0, 1] c) (fun v1 c2 =>
    if v1 = 0 then
      some ((-1), c2)
    else
      if x1 = 0 then
        zex zc_X12_parameter zk_X12_parameter (zrun zTab d) 19999 24 [(2, this), (0, x1), (0, x2), (3, 0)] [(0, 8), (0, 0), (0, x2)] c2
      else
        zex zc_X12_parameter zk_X12_parameter (zrun zTab d) 19999 24 [(2, this), (0, x1), (0, x2), (3, 0)] [(0, 9), (0, 0), (0, x2)] c2) := (zrun_s zt172).trans (zf_X12_parameter _ _ this x1 x2 c)
set_option maxRecDepth 100000 in
theorem zf_X12_parameter_24 (call : zCall) (K : zK) (this x1 x2 s0 s1 s2 : Int) (c : zC) : zseg zc_X12_parameter zk_X12_parameter call K 1000 24 [(2, this), (0, x1), (0, x2), (3, 0)] [(0, s2), (0, s1), (0, s0)] c =
  zbnd (call 138 [s0, s1, s2] c) (fun v1 c2 =>
    if v1 = 0 then
      some ((-2), c2)
    else
      if c2 this (-1) = 12 then
        zbnd (call 140 [this] c2) (fun _ c4 =>
          if c4 this (-1) = 12 then
            if c4 (c4 this 0) (-1) = 100 ∧ (0 : Int) ≤ (zadd 1480 x1) ∧ (zadd 1480 x1) < c4 (c4 this 0) (-2) then
              if c4 this (-1) = 12 then
                if c4 (c4 this 0) (-1) = 100 ∧ (0 : Int) ≤ (zadd 1480 x1) ∧ (zadd 1480 x1) < c4 (c4 this 0) (-2) then
                  some (c4 (c4 this 0) (zadd 1480 x1), zup c4 (c4 this 0) (zadd 1480 x1) x2)
                else none
              else none
            else none
          else none)
      else none) := by rfl
theorem ze_X12_parameter_24 (d F : Nat) (this x1 x2 s0 s1 s2 : Int) (c : zC) : zex zc_X12_parameter zk_X12_parameter (zrun zTab d) (F + 1) 24 [(2, this), (0, x1), (0, x2), (3, 0)] [(0, s2), (0, s1), (0, s0)] c =
  zbnd (zrun zTab d 138 [s0, s1, s2] c) (fun v1 c2 =>
    if v1 = 0 then
      some ((-2), c2)
    else
      if c2 this (-1) = 12 then
        zbnd (zrun zTab d 140 [this] c2) (fun _ c4 =>
          if c4 this (-1) = 12 then
            if c4 (c4 this 0) (-1) = 100 ∧ (0 : Int) ≤ (zadd 1480 x1) ∧ (zadd 1480 x1) < c4 (c4 this 0) (-2) then
              if c4 this (-1) = 12 then
                if c4 (c4 this 0) (-1) = 100 ∧ (0 : Int) ≤ (zadd 1480 x1) ∧ (zadd 1480 x1) < c4 (c4 this 0) (-2) then
                  some (c4 (c4 this 0) (zadd 1480 x1), zup c4 (c4 this 0) (zadd 1480 x1) x2)
                else none
              else none
            else none
          else none)
      else none) := zf_X12_parameter_24 _ _ this x1 x2 s0 s1 s2 c
set_option maxRecDepth 100000 in
theorem zf_X12_budget (call : zCall) (K : zK) (this x1 x2 : Int) (c : zC) : zseg zc_X12_budget zk_X12_budget call K 1000 0 [(2, this), (0, x1), (0, x2), (3, 0)] [] c =
  zbnd (call 141 [x1] c) (fun v1 c2 =>
    if v1 = 0 then
      some ((-1), c2)
    else
      zbnd (call 138 [x2, 0, 20] c2) (fun v3 c4 =>
        if v3 = 0 then
          some ((-2), c4)
        else
          if c4 this (-1) = 12 then
            zbnd (call 140 [this] c4) (fun _ c6 =>
              if c6 this (-1) = 12 then
                zbnd (call 143 [this, x1] c6) (fun v7 c8 =>
                  if c8 this (-1) = 12 then
                    if c8 (c8 this 0) (-1) = 100 ∧ (0 : Int) ≤ (zadd (zmul 242 x1) 1) ∧ (zadd (zmul 242 x1) 1) < c8 (c8 this 0) (-2) then
                      some (v7, zup c8 (c8 this 0) (zadd (zmul 242 x1) 1) x2)
                    else none
                  else none)
              else none)
          else none)) := by rfl
theorem ze_X12_budget (d : Nat) (this x1 x2 : Int) (c : zC) : zrun zTab (d + 1) 173 [this, x1, x2] c =
  zbnd (zrun zTab d 141 [x1] c) (fun v1 c2 =>
    if v1 = 0 then
      some ((-1), c2)
    else
      zbnd (zrun zTab d 138 [x2, 0, 20] c2) (fun v3 c4 =>
        if v3 = 0 then
          some ((-2), c4)
        else
          if c4 this (-1) = 12 then
            zbnd (zrun zTab d 140 [this] c4) (fun _ c6 =>
              if c6 this (-1) = 12 then
                zbnd (zrun zTab d 143 [this, x1] c6) (fun v7 c8 =>
                  if c8 this (-1) = 12 then
                    if c8 (c8 this 0) (-1) = 100 ∧ (0 : Int) ≤ (zadd (zmul 242 x1) 1) ∧ (zadd (zmul 242 x1) 1) < c8 (c8 this 0) (-2) then
                      some (v7, zup c8 (c8 this 0) (zadd (zmul 242 x1) 1) x2)
                    else none
                  else none)
              else none)
          else none)) := (zrun_s zt173).trans (zf_X12_budget _ _ this x1 x2 c)
set_option maxRecDepth 100000 in
theorem zf_X12_applies (call : zCall) (K : zK) (this x1 x2 x3 x4 x5 : Int) (c : zC) : zseg zc_X12_applies zk_X12_applies call K 1000 0 [(2, this), (0, x1), (2, x2), (0, x3), (0, x4), (2, x5), (3, 0), (3, 0), (3, 0), (3, 0)] [] c =
  zbnd (call 150 [x1] c) (fun v1 c2 =>
    if c2 this (-1) = 12 then
      if c2 (c2 this 0) (-1) = 100 ∧ (0 : Int) ≤ v1 ∧ v1 < c2 (c2 this 0) (-2) then
        if c2 this (-1) = 12 then
          if c2 (c2 this 0) (-1) = 100 ∧ (0 : Int) ≤ (zadd v1 5) ∧ (zadd v1 5) < c2 (c2 this 0) (-2) then
            if (zsub x4 (c2 (c2 this 0) v1)) < 2 then
              some ((-1), c2)
            else
              if (zadd (zsub x4 (c2 (c2 this 0) v1)) (c2 (c2 this 0) (zadd v1 5))) ≤ 10 then
                K 53 [(2, this), (3, 0), (2, x2), (0, x3), (0, x4), (2, x5), (0, v1), (0, c2 (c2 this 0) v1), (0, c2 (c2 this 0) (zadd v1 5)), (0, 0)] [] c2
              else
                some ((-1), c2)
          else none
        else none
      else none
    else none) := by rfl
theorem ze_X12_applies (d : Nat) (this x1 x2 x3 x4 x5 : Int) (c : zC) : zrun zTab (d + 1) 174 [this, x1, x2, x3, x4, x5] c =
  zbnd (zrun zTab d 150 [x1] c) (fun v1 c2 =>
    if c2 this (-1) = 12 then
      if c2 (c2 this 0) (-1) = 100 ∧ (0 : Int) ≤ v1 ∧ v1 < c2 (c2 this 0) (-2) then
        if c2 this (-1) = 12 then
          if c2 (c2 this 0) (-1) = 100 ∧ (0 : Int) ≤ (zadd v1 5) ∧ (zadd v1 5) < c2 (c2 this 0) (-2) then
            if (zsub x4 (c2 (c2 this 0) v1)) < 2 then
              some ((-1), c2)
            else
              if (zadd (zsub x4 (c2 (c2 this 0) v1)) (c2 (c2 this 0) (zadd v1 5))) ≤ 10 then
                zex zc_X12_applies zk_X12_applies (zrun zTab d) 19999 53 [(2, this), (3, 0), (2, x2), (0, x3), (0, x4), (2, x5), (0, v1), (0, c2 (c2 this 0) v1), (0, c2 (c2 this 0) (zadd v1 5)), (0, 0)] [] c2
              else
                some ((-1), c2)
          else none
        else none
      else none
    else none) := (zrun_s zt174).trans (zf_X12_applies _ _ this x1 x2 x3 x4 x5 c)
set_option maxRecDepth 100000 in
theorem zf_X12_applies_53 (call : zCall) (K : zK) (this x2 x3 x4 x5 x6 x7 x8 x9 : Int) (c : zC) : zseg zc_X12_applies zk_X12_applies call K 1000 53 [(2, this), (3, 0), (2, x2), (0, x3), (0, x4), (2, x5), (0, x6), (0, x7), (0, x8), (0, x9)] [] c =
  if x9 < x7 then
    if c x2 (-1) = 100 ∧ (0 : Int) ≤ (zadd (zsub (zadd x3 x4) x7) x9) ∧ (zadd (zsub (zadd x3 x4) x7) x9) < c x2 (-2) then
      if c this (-1) = 12 then
        if c (c this 0) (-1) = 100 ∧ (0 : Int) ≤ (zadd (zadd x6 1) x9) ∧ (zadd (zadd x6 1) x9) < c (c this 0) (-2) then
          if (c x2 (zadd (zsub (zadd x3 x4) x7) x9)) = (c (c this 0) (zadd (zadd x6 1) x9)) then
            K 53 [(2, this), (3, 0), (2, x2), (0, x3), (0, x4), (2, x5), (0, x6), (0, x7), (0, x8), (0, zw (x9 + 1))] [] c
          else
            some ((-1), c)
        else none
      else none
    else none
  else
    K 98 [(2, this), (3, 0), (2, x2), (0, x3), (0, x4), (2, x5), (0, x6), (0, x7), (0, x8), (0, 0)] [] c := by rfl
theorem ze_X12_applies_53 (d F : Nat) (this x2 x3 x4 x5 x6 x7 x8 x9 : Int) (c : zC) : zex zc_X12_applies zk_X12_applies (zrun zTab d) (F + 1) 53 [(2, this), (3, 0), (2, x2), (0, x3), (0, x4), (2, x5), (0, x6), (0, x7), (0, x8), (0, x9)] [] c =
  if x9 < x7 then
    if c x2 (-1) = 100 ∧ (0 : Int) ≤ (zadd (zsub (zadd x3 x4) x7) x9) ∧ (zadd (zsub (zadd x3 x4) x7) x9) < c x2 (-2) then
      if c this (-1) = 12 then
        if c (c this 0) (-1) = 100 ∧ (0 : Int) ≤ (zadd (zadd x6 1) x9) ∧ (zadd (zadd x6 1) x9) < c (c this 0) (-2) then
          if (c x2 (zadd (zsub (zadd x3 x4) x7) x9)) = (c (c this 0) (zadd (zadd x6 1) x9)) then
            zex zc_X12_applies zk_X12_applies (zrun zTab d) F 53 [(2, this), (3, 0), (2, x2), (0, x3), (0, x4), (2, x5), (0, x6), (0, x7), (0, x8), (0, zw (x9 + 1))] [] c
          else
            some ((-1), c)
        else none
      else none
    else none
  else
    zex zc_X12_applies zk_X12_applies (zrun zTab d) F 98 [(2, this), (3, 0), (2, x2), (0, x3), (0, x4), (2, x5), (0, x6), (0, x7), (0, x8), (0, 0)] [] c := zf_X12_applies_53 _ _ this x2 x3 x4 x5 x6 x7 x8 x9 c
set_option maxRecDepth 100000 in
theorem zf_X12_applies_98 (call : zCall) (K : zK) (this x2 x3 x4 x5 x6 x7 x8 x9 : Int) (c : zC) : zseg zc_X12_applies zk_X12_applies call K 1000 98 [(2, this), (3, 0), (2, x2), (0, x3), (0, x4), (2, x5), (0, x6), (0, x7), (0, x8), (0, x9)] [] c =
  if x9 < (zsub x4 x7) then
    if c x2 (-1) = 100 ∧ (0 : Int) ≤ (zadd x3 x9) ∧ (zadd x3 x9) < c x2 (-2) then
      if c x5 (-1) = 100 ∧ (0 : Int) ≤ x9 ∧ x9 < c x5 (-2) then
        K 98 [(2, this), (3, 0), (2, x2), (0, x3), (0, x4), (2, x5), (0, x6), (0, x7), (0, x8), (0, zw (x9 + 1))] [] (zup c x5 x9 (c x2 (zadd x3 x9)))
      else none
    else none
  else
    K 128 [(2, this), (3, 0), (3, 0), (3, 0), (0, x4), (2, x5), (0, x6), (0, x7), (0, x8), (0, 0)] [] c := by rfl
theorem ze_X12_applies_98 (d F : Nat) (this x2 x3 x4 x5 x6 x7 x8 x9 : Int) (c : zC) : zex zc_X12_applies zk_X12_applies (zrun zTab d) (F + 1) 98 [(2, this), (3, 0), (2, x2), (0, x3), (0, x4), (2, x5), (0, x6), (0, x7), (0, x8), (0, x9)] [] c =
  if x9 < (zsub x4 x7) then
    if c x2 (-1) = 100 ∧ (0 : Int) ≤ (zadd x3 x9) ∧ (zadd x3 x9) < c x2 (-2) then
      if c x5 (-1) = 100 ∧ (0 : Int) ≤ x9 ∧ x9 < c x5 (-2) then
        zex zc_X12_applies zk_X12_applies (zrun zTab d) F 98 [(2, this), (3, 0), (2, x2), (0, x3), (0, x4), (2, x5), (0, x6), (0, x7), (0, x8), (0, zw (x9 + 1))] [] (zup c x5 x9 (c x2 (zadd x3 x9)))
      else none
    else none
  else
    zex zc_X12_applies zk_X12_applies (zrun zTab d) F 128 [(2, this), (3, 0), (3, 0), (3, 0), (0, x4), (2, x5), (0, x6), (0, x7), (0, x8), (0, 0)] [] c := zf_X12_applies_98 _ _ this x2 x3 x4 x5 x6 x7 x8 x9 c
set_option maxRecDepth 100000 in
theorem zf_X12_applies_128 (call : zCall) (K : zK) (this x4 x5 x6 x7 x8 x9 : Int) (c : zC) : zseg zc_X12_applies zk_X12_applies call K 1000 128 [(2, this), (3, 0), (3, 0), (3, 0), (0, x4), (2, x5), (0, x6), (0, x7), (0, x8), (0, x9)] [] c =
  if x9 < x8 then
    if c this (-1) = 12 then
      if c (c this 0) (-1) = 100 ∧ (0 : Int) ≤ (zadd (zadd x6 6) x9) ∧ (zadd (zadd x6 6) x9) < c (c this 0) (-2) then
        if c x5 (-1) = 100 ∧ (0 : Int) ≤ (zadd (zsub x4 x7) x9) ∧ (zadd (zsub x4 x7) x9) < c x5 (-2) then
          K 128 [(2, this), (3, 0), (3, 0), (3, 0), (0, x4), (2, x5), (0, x6), (0, x7), (0, x8), (0, zw (x9 + 1))] [] (zup c x5 (zadd (zsub x4 x7) x9) (c (c this 0) (zadd (zadd x6 6) x9)))
        else none
      else none
    else none
  else
    some (zadd (zsub x4 x7) x8, c) := by rfl
theorem ze_X12_applies_128 (d F : Nat) (this x4 x5 x6 x7 x8 x9 : Int) (c : zC) : zex zc_X12_applies zk_X12_applies (zrun zTab d) (F + 1) 128 [(2, this), (3, 0), (3, 0), (3, 0), (0, x4), (2, x5), (0, x6), (0, x7), (0, x8), (0, x9)] [] c =
  if x9 < x8 then
    if c this (-1) = 12 then
      if c (c this 0) (-1) = 100 ∧ (0 : Int) ≤ (zadd (zadd x6 6) x9) ∧ (zadd (zadd x6 6) x9) < c (c this 0) (-2) then
        if c x5 (-1) = 100 ∧ (0 : Int) ≤ (zadd (zsub x4 x7) x9) ∧ (zadd (zsub x4 x7) x9) < c x5 (-2) then
          zex zc_X12_applies zk_X12_applies (zrun zTab d) F 128 [(2, this), (3, 0), (3, 0), (3, 0), (0, x4), (2, x5), (0, x6), (0, x7), (0, x8), (0, zw (x9 + 1))] [] (zup c x5 (zadd (zsub x4 x7) x9) (c (c this 0) (zadd (zadd x6 6) x9)))
        else none
      else none
    else none
  else
    some (zadd (zsub x4 x7) x8, c) := zf_X12_applies_128 _ _ this x4 x5 x6 x7 x8 x9 c
set_option maxRecDepth 100000 in
theorem zf_X12_isBase (call : zCall) (K : zK) (this x1 x2 x3 x4 x5 : Int) (c : zC) : zseg zc_X12_isBase zk_X12_isBase call K 1000 0 [(2, this), (0, x1), (0, x2), (2, x3), (0, x4), (0, x5), (3, 0), (3, 0)] [] c =
  if c this (-1) = 12 then
    if c (c this 14) (-1) = 100 ∧ (0 : Int) ≤ (zadd (zmul 43 x1) x2) ∧ (zadd (zmul 43 x1) x2) < c (c this 14) (-2) then
      if (c (c this 14) (zadd (zmul 43 x1) x2)) = x5 then
        K 26 [(2, this), (0, x1), (0, x2), (2, x3), (0, x4), (0, x5), (0, 1), (0, 0)] [] c
      else
        K 26 [(2, this), (0, x1), (0, x2), (2, x3), (0, x4), (0, x5), (0, 0), (0, 0)] [] c
    else none
  else none := by rfl
theorem ze_X12_isBase (d : Nat) (this x1 x2 x3 x4 x5 : Int) (c : zC) : zrun zTab (d + 1) 175 [this, x1, x2, x3, x4, x5] c =
  if c this (-1) = 12 then
    if c (c this 14) (-1) = 100 ∧ (0 : Int) ≤ (zadd (zmul 43 x1) x2) ∧ (zadd (zmul 43 x1) x2) < c (c this 14) (-2) then
      if (c (c this 14) (zadd (zmul 43 x1) x2)) = x5 then
        zex zc_X12_isBase zk_X12_isBase (zrun zTab d) 19999 26 [(2, this), (0, x1), (0, x2), (2, x3), (0, x4), (0, x5), (0, 1), (0, 0)] [] c
      else
        zex zc_X12_isBase zk_X12_isBase (zrun zTab d) 19999 26 [(2, this), (0, x1), (0, x2), (2, x3), (0, x4), (0, x5), (0, 0), (0, 0)] [] c
    else none
  else none := (zrun_s zt175).trans (zf_X12_isBase _ _ this x1 x2 x3 x4 x5 c)
