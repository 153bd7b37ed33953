/-! The equations of the law: its entry, its loop, the 25 calls. -/
set_option maxRecDepth 100000 in
theorem zf_L_law (call : zCall) (K : zK) (x0 : Int) (c : zC) : zseg zc_L_law zk_L_law call K 1000 0 [(2, x0), (3, 0), (3, 0), (3, 0)] [] c =
  if (znew c 11 7) (c 0 0) (-1) = 11 then
    zbnd (call 98 [c 0 0] (znew c 11 7)) (fun _ c2 =>
      if (znew c2 12 29) (c2 0 0) (-1) = 12 then
        zbnd (call 137 [c2 0 0] (znew c2 12 29)) (fun _ c4 =>
          K 18 [(2, x0), (2, c 0 0), (2, c2 0 0), (0, 0)] [] c4)
      else none)
  else none := by rfl
theorem ze_L_law (d F : Nat) (x0 : Int) (c : zC) : zex zc_L_law zk_L_law (zrun zTab d) (F + 1) 0 [(2, x0), (3, 0), (3, 0), (3, 0)] [] c =
  if (znew c 11 7) (c 0 0) (-1) = 11 then
    zbnd (zrun zTab d 98 [c 0 0] (znew c 11 7)) (fun _ c2 =>
      if (znew c2 12 29) (c2 0 0) (-1) = 12 then
        zbnd (zrun zTab d 137 [c2 0 0] (znew c2 12 29)) (fun _ c4 =>
          zex zc_L_law zk_L_law (zrun zTab d) F 18 [(2, x0), (2, c 0 0), (2, c2 0 0), (0, 0)] [] c4)
      else none)
  else none := zf_L_law _ _ x0 c
def zb_0 (call : zCall) (K : zK) (x0 x1 x2 x3 : Int) (c : zC) : zR :=
  if c x0 (-1) = 99 ∧ (0 : Int) ≤ (zadd x3 1) ∧ (zadd x3 1) < c x0 (-2) then
    if c x0 (-1) = 99 ∧ (0 : Int) ≤ (zadd x3 2) ∧ (zadd x3 2) < c x0 (-2) then
      if c x0 (-1) = 99 ∧ (0 : Int) ≤ (zadd x3 3) ∧ (zadd x3 3) < c x0 (-2) then
        if c x0 (-1) = 99 ∧ (0 : Int) ≤ (zadd x3 4) ∧ (zadd x3 4) < c x0 (-2) then
          if c x0 (-1) = 99 ∧ (0 : Int) ≤ (zadd x3 5) ∧ (zadd x3 5) < c x0 (-2) then
            if c x0 (-1) = 99 ∧ (0 : Int) ≤ (zadd x3 6) ∧ (zadd x3 6) < c x0 (-2) then
              if c x1 (-1) = 11 then
                zbnd (call 99 [x1, c x0 (zadd x3 1), c x0 (zadd x3 2), c x0 (zadd x3 3), c x0 (zadd x3 4), c x0 (zadd x3 5), c x0 (zadd x3 6)] c) (fun v1 c2 =>
                  if c2 x0 (-1) = 99 ∧ (0 : Int) ≤ (zadd x3 1) ∧ (zadd x3 1) < c2 x0 (-2) then
                    if c2 x0 (-1) = 99 ∧ (0 : Int) ≤ (zadd x3 2) ∧ (zadd x3 2) < c2 x0 (-2) then
                      if c2 x0 (-1) = 99 ∧ (0 : Int) ≤ (zadd x3 3) ∧ (zadd x3 3) < c2 x0 (-2) then
                        if c2 x0 (-1) = 99 ∧ (0 : Int) ≤ (zadd x3 4) ∧ (zadd x3 4) < c2 x0 (-2) then
                          if c2 x0 (-1) = 99 ∧ (0 : Int) ≤ (zadd x3 5) ∧ (zadd x3 5) < c2 x0 (-2) then
                            if c2 x0 (-1) = 99 ∧ (0 : Int) ≤ (zadd x3 6) ∧ (zadd x3 6) < c2 x0 (-2) then
                              if c2 x2 (-1) = 12 then
                                zbnd (call 155 [x2, c2 x0 (zadd x3 1), c2 x0 (zadd x3 2), c2 x0 (zadd x3 3), c2 x0 (zadd x3 4), c2 x0 (zadd x3 5), c2 x0 (zadd x3 6)] c2) (fun v3 c4 =>
                                  if v1 = v3 then
                                    K 18 [(2, x0), (2, x1), (2, x2), (0, zw (x3 + 7))] [] c4
                                  else
                                    some (0, c4))
                              else none
                            else none
                          else none
                        else none
                      else none
                    else none
                  else none)
              else none
            else none
          else none
        else none
      else none
    else none
  else none
def zb_1 (call : zCall) (K : zK) (x0 x1 x2 x3 : Int) (c : zC) : zR :=
  if c x0 (-1) = 99 ∧ (0 : Int) ≤ (zadd x3 1) ∧ (zadd x3 1) < c x0 (-2) then
    if c x1 (-1) = 11 then
      zbnd (call 100 [x1, c x0 (zadd x3 1)] c) (fun v1 c2 =>
        if c2 x0 (-1) = 99 ∧ (0 : Int) ≤ (zadd x3 1) ∧ (zadd x3 1) < c2 x0 (-2) then
          if c2 x2 (-1) = 12 then
            zbnd (call 167 [x2, c2 x0 (zadd x3 1)] c2) (fun v3 c4 =>
              if v1 = v3 then
                K 18 [(2, x0), (2, x1), (2, x2), (0, zw (x3 + 7))] [] c4
              else
                some (0, c4))
          else none
        else none)
    else none
  else none
def zb_2 (call : zCall) (K : zK) (x0 x1 x2 x3 : Int) (c : zC) : zR :=
  if c x1 (-1) = 11 then
    zbnd (call 101 [x1] c) (fun v1 c2 =>
      if c2 x2 (-1) = 12 then
        zbnd (call 168 [x2] c2) (fun v3 c4 =>
          if v1 = v3 then
            K 18 [(2, x0), (2, x1), (2, x2), (0, zw (x3 + 7))] [] c4
          else
            some (0, c4))
      else none)
  else none
def zb_3 (call : zCall) (K : zK) (x0 x1 x2 x3 : Int) (c : zC) : zR :=
  if c x1 (-1) = 11 then
    zbnd (call 102 [x1] c) (fun v1 c2 =>
      if c2 x2 (-1) = 12 then
        zbnd (call 169 [x2] c2) (fun v3 c4 =>
          if v1 = v3 then
            K 18 [(2, x0), (2, x1), (2, x2), (0, zw (x3 + 7))] [] c4
          else
            some (0, c4))
      else none)
  else none
def zb_4 (call : zCall) (K : zK) (x0 x1 x2 x3 : Int) (c : zC) : zR :=
  if c x0 (-1) = 99 ∧ (0 : Int) ≤ (zadd x3 1) ∧ (zadd x3 1) < c x0 (-2) then
    if c x1 (-1) = 11 then
      zbnd (call 103 [x1, c x0 (zadd x3 1)] c) (fun v1 c2 =>
        if c2 x0 (-1) = 99 ∧ (0 : Int) ≤ (zadd x3 1) ∧ (zadd x3 1) < c2 x0 (-2) then
          if c2 x2 (-1) = 12 then
            zbnd (call 170 [x2, c2 x0 (zadd x3 1)] c2) (fun v3 c4 =>
              if v1 = v3 then
                K 18 [(2, x0), (2, x1), (2, x2), (0, zw (x3 + 7))] [] c4
              else
                some (0, c4))
          else none
        else none)
    else none
  else none
def zb_5 (call : zCall) (K : zK) (x0 x1 x2 x3 : Int) (c : zC) : zR :=
  if c x0 (-1) = 99 ∧ (0 : Int) ≤ (zadd x3 1) ∧ (zadd x3 1) < c x0 (-2) then
    if c x1 (-1) = 11 then
      zbnd (call 104 [x1, c x0 (zadd x3 1)] c) (fun v1 c2 =>
        if c2 x0 (-1) = 99 ∧ (0 : Int) ≤ (zadd x3 1) ∧ (zadd x3 1) < c2 x0 (-2) then
          if c2 x2 (-1) = 12 then
            zbnd (call 171 [x2, c2 x0 (zadd x3 1)] c2) (fun v3 c4 =>
              if v1 = v3 then
                K 18 [(2, x0), (2, x1), (2, x2), (0, zw (x3 + 7))] [] c4
              else
                some (0, c4))
          else none
        else none)
    else none
  else none
def zb_6 (call : zCall) (K : zK) (x0 x1 x2 x3 : Int) (c : zC) : zR :=
  if c x0 (-1) = 99 ∧ (0 : Int) ≤ (zadd x3 1) ∧ (zadd x3 1) < c x0 (-2) then
    if c x0 (-1) = 99 ∧ (0 : Int) ≤ (zadd x3 2) ∧ (zadd x3 2) < c x0 (-2) then
      if c x1 (-1) = 11 then
        zbnd (call 105 [x1, c x0 (zadd x3 1), c x0 (zadd x3 2)] c) (fun v1 c2 =>
          if c2 x0 (-1) = 99 ∧ (0 : Int) ≤ (zadd x3 1) ∧ (zadd x3 1) < c2 x0 (-2) then
            if c2 x0 (-1) = 99 ∧ (0 : Int) ≤ (zadd x3 2) ∧ (zadd x3 2) < c2 x0 (-2) then
              if c2 x2 (-1) = 12 then
                zbnd (call 172 [x2, c2 x0 (zadd x3 1), c2 x0 (zadd x3 2)] c2) (fun v3 c4 =>
                  if v1 = v3 then
                    K 18 [(2, x0), (2, x1), (2, x2), (0, zw (x3 + 7))] [] c4
                  else
                    some (0, c4))
              else none
            else none
          else none)
      else none
    else none
  else none
def zb_7 (call : zCall) (K : zK) (x0 x1 x2 x3 : Int) (c : zC) : zR :=
  if c x0 (-1) = 99 ∧ (0 : Int) ≤ (zadd x3 1) ∧ (zadd x3 1) < c x0 (-2) then
    if c x0 (-1) = 99 ∧ (0 : Int) ≤ (zadd x3 2) ∧ (zadd x3 2) < c x0 (-2) then
      if c x1 (-1) = 11 then
        zbnd (call 106 [x1, c x0 (zadd x3 1), c x0 (zadd x3 2)] c) (fun v1 c2 =>
          if c2 x0 (-1) = 99 ∧ (0 : Int) ≤ (zadd x3 1) ∧ (zadd x3 1) < c2 x0 (-2) then
            if c2 x0 (-1) = 99 ∧ (0 : Int) ≤ (zadd x3 2) ∧ (zadd x3 2) < c2 x0 (-2) then
              if c2 x2 (-1) = 12 then
                zbnd (call 173 [x2, c2 x0 (zadd x3 1), c2 x0 (zadd x3 2)] c2) (fun v3 c4 =>
                  if v1 = v3 then
                    K 18 [(2, x0), (2, x1), (2, x2), (0, zw (x3 + 7))] [] c4
                  else
                    some (0, c4))
              else none
            else none
          else none)
      else none
    else none
  else none
def zb_8 (call : zCall) (K : zK) (x0 x1 x2 x3 : Int) (c : zC) : zR :=
  if c x0 (-1) = 99 ∧ (0 : Int) ≤ (zadd x3 1) ∧ (zadd x3 1) < c x0 (-2) then
    if c x0 (-1) = 99 ∧ (0 : Int) ≤ (zadd x3 2) ∧ (zadd x3 2) < c x0 (-2) then
      if c x1 (-1) = 11 then
        zbnd (call 107 [x1, c x0 (zadd x3 1), c x0 (zadd x3 2)] c) (fun v1 c2 =>
          if c2 x0 (-1) = 99 ∧ (0 : Int) ≤ (zadd x3 1) ∧ (zadd x3 1) < c2 x0 (-2) then
            if c2 x0 (-1) = 99 ∧ (0 : Int) ≤ (zadd x3 2) ∧ (zadd x3 2) < c2 x0 (-2) then
              if c2 x2 (-1) = 12 then
                zbnd (call 189 [x2, c2 x0 (zadd x3 1), c2 x0 (zadd x3 2)] c2) (fun v3 c4 =>
                  if v1 = v3 then
                    K 18 [(2, x0), (2, x1), (2, x2), (0, zw (x3 + 7))] [] c4
                  else
                    some (0, c4))
              else none
            else none
          else none)
      else none
    else none
  else none
def zb_9 (call : zCall) (K : zK) (x0 x1 x2 x3 : Int) (c : zC) : zR :=
  if c x0 (-1) = 99 ∧ (0 : Int) ≤ (zadd x3 1) ∧ (zadd x3 1) < c x0 (-2) then
    if c x0 (-1) = 99 ∧ (0 : Int) ≤ (zadd x3 2) ∧ (zadd x3 2) < c x0 (-2) then
      if c x1 (-1) = 11 then
        zbnd (call 108 [x1, c x0 (zadd x3 1), c x0 (zadd x3 2)] c) (fun v1 c2 =>
          if c2 x0 (-1) = 99 ∧ (0 : Int) ≤ (zadd x3 1) ∧ (zadd x3 1) < c2 x0 (-2) then
            if c2 x0 (-1) = 99 ∧ (0 : Int) ≤ (zadd x3 2) ∧ (zadd x3 2) < c2 x0 (-2) then
              if c2 x2 (-1) = 12 then
                zbnd (call 190 [x2, c2 x0 (zadd x3 1), c2 x0 (zadd x3 2)] c2) (fun v3 c4 =>
                  if v1 = v3 then
                    K 18 [(2, x0), (2, x1), (2, x2), (0, zw (x3 + 7))] [] c4
                  else
                    some (0, c4))
              else none
            else none
          else none)
      else none
    else none
  else none
def zb_10 (call : zCall) (K : zK) (x0 x1 x2 x3 : Int) (c : zC) : zR :=
  if c x0 (-1) = 99 ∧ (0 : Int) ≤ (zadd x3 1) ∧ (zadd x3 1) < c x0 (-2) then
    if c x0 (-1) = 99 ∧ (0 : Int) ≤ (zadd x3 2) ∧ (zadd x3 2) < c x0 (-2) then
      if c x1 (-1) = 11 then
        zbnd (call 109 [x1, c x0 (zadd x3 1), c x0 (zadd x3 2)] c) (fun v1 c2 =>
          if c2 x0 (-1) = 99 ∧ (0 : Int) ≤ (zadd x3 1) ∧ (zadd x3 1) < c2 x0 (-2) then
            if c2 x0 (-1) = 99 ∧ (0 : Int) ≤ (zadd x3 2) ∧ (zadd x3 2) < c2 x0 (-2) then
              if c2 x2 (-1) = 12 then
                zbnd (call 191 [x2, c2 x0 (zadd x3 1), c2 x0 (zadd x3 2)] c2) (fun v3 c4 =>
                  if v1 = v3 then
                    K 18 [(2, x0), (2, x1), (2, x2), (0, zw (x3 + 7))] [] c4
                  else
                    some (0, c4))
              else none
            else none
          else none)
      else none
    else none
  else none
def zb_11 (call : zCall) (K : zK) (x0 x1 x2 x3 : Int) (c : zC) : zR :=
  if c x0 (-1) = 99 ∧ (0 : Int) ≤ (zadd x3 1) ∧ (zadd x3 1) < c x0 (-2) then
    if c x1 (-1) = 11 then
      zbnd (call 110 [x1, c x0 (zadd x3 1)] c) (fun v1 c2 =>
        if c2 x0 (-1) = 99 ∧ (0 : Int) ≤ (zadd x3 1) ∧ (zadd x3 1) < c2 x0 (-2) then
          if c2 x2 (-1) = 12 then
            zbnd (call 192 [x2, c2 x0 (zadd x3 1)] c2) (fun v3 c4 =>
              if v1 = v3 then
                K 18 [(2, x0), (2, x1), (2, x2), (0, zw (x3 + 7))] [] c4
              else
                some (0, c4))
          else none
        else none)
    else none
  else none
def zb_12 (call : zCall) (K : zK) (x0 x1 x2 x3 : Int) (c : zC) : zR :=
  if c x1 (-1) = 11 then
    zbnd (call 111 [x1] c) (fun v1 c2 =>
      if c2 x2 (-1) = 12 then
        zbnd (call 193 [x2] c2) (fun v3 c4 =>
          if v1 = v3 then
            K 18 [(2, x0), (2, x1), (2, x2), (0, zw (x3 + 7))] [] c4
          else
            some (0, c4))
      else none)
  else none
def zb_13 (call : zCall) (K : zK) (x0 x1 x2 x3 : Int) (c : zC) : zR :=
  if c x0 (-1) = 99 ∧ (0 : Int) ≤ (zadd x3 1) ∧ (zadd x3 1) < c x0 (-2) then
    if c x0 (-1) = 99 ∧ (0 : Int) ≤ (zadd x3 2) ∧ (zadd x3 2) < c x0 (-2) then
      if c x0 (-1) = 99 ∧ (0 : Int) ≤ (zadd x3 3) ∧ (zadd x3 3) < c x0 (-2) then
        if c x1 (-1) = 11 then
          zbnd (call 112 [x1, c x0 (zadd x3 1), c x0 (zadd x3 2), c x0 (zadd x3 3)] c) (fun v1 c2 =>
            if c2 x0 (-1) = 99 ∧ (0 : Int) ≤ (zadd x3 1) ∧ (zadd x3 1) < c2 x0 (-2) then
              if c2 x0 (-1) = 99 ∧ (0 : Int) ≤ (zadd x3 2) ∧ (zadd x3 2) < c2 x0 (-2) then
                if c2 x0 (-1) = 99 ∧ (0 : Int) ≤ (zadd x3 3) ∧ (zadd x3 3) < c2 x0 (-2) then
                  if c2 x2 (-1) = 12 then
                    zbnd (call 194 [x2, c2 x0 (zadd x3 1), c2 x0 (zadd x3 2), c2 x0 (zadd x3 3)] c2) (fun v3 c4 =>
                      if v1 = v3 then
                        K 18 [(2, x0), (2, x1), (2, x2), (0, zw (x3 + 7))] [] c4
                      else
                        some (0, c4))
                  else none
                else none
              else none
            else none)
        else none
      else none
    else none
  else none
def zb_14 (call : zCall) (K : zK) (x0 x1 x2 x3 : Int) (c : zC) : zR :=
  if c x0 (-1) = 99 ∧ (0 : Int) ≤ (zadd x3 1) ∧ (zadd x3 1) < c x0 (-2) then
    if c x0 (-1) = 99 ∧ (0 : Int) ≤ (zadd x3 2) ∧ (zadd x3 2) < c x0 (-2) then
      if c x0 (-1) = 99 ∧ (0 : Int) ≤ (zadd x3 3) ∧ (zadd x3 3) < c x0 (-2) then
        if c x1 (-1) = 11 then
          zbnd (call 113 [x1, c x0 (zadd x3 1), c x0 (zadd x3 2), c x0 (zadd x3 3)] c) (fun v1 c2 =>
            if c2 x0 (-1) = 99 ∧ (0 : Int) ≤ (zadd x3 1) ∧ (zadd x3 1) < c2 x0 (-2) then
              if c2 x0 (-1) = 99 ∧ (0 : Int) ≤ (zadd x3 2) ∧ (zadd x3 2) < c2 x0 (-2) then
                if c2 x0 (-1) = 99 ∧ (0 : Int) ≤ (zadd x3 3) ∧ (zadd x3 3) < c2 x0 (-2) then
                  if c2 x2 (-1) = 12 then
                    zbnd (call 195 [x2, c2 x0 (zadd x3 1), c2 x0 (zadd x3 2), c2 x0 (zadd x3 3)] c2) (fun v3 c4 =>
                      if v1 = v3 then
                        K 18 [(2, x0), (2, x1), (2, x2), (0, zw (x3 + 7))] [] c4
                      else
                        some (0, c4))
                  else none
                else none
              else none
            else none)
        else none
      else none
    else none
  else none
def zb_15 (call : zCall) (K : zK) (x0 x1 x2 x3 : Int) (c : zC) : zR :=
  if c x0 (-1) = 99 ∧ (0 : Int) ≤ (zadd x3 1) ∧ (zadd x3 1) < c x0 (-2) then
    if c x0 (-1) = 99 ∧ (0 : Int) ≤ (zadd x3 2) ∧ (zadd x3 2) < c x0 (-2) then
      if c x0 (-1) = 99 ∧ (0 : Int) ≤ (zadd x3 3) ∧ (zadd x3 3) < c x0 (-2) then
        if c x0 (-1) = 99 ∧ (0 : Int) ≤ (zadd x3 4) ∧ (zadd x3 4) < c x0 (-2) then
          if c x1 (-1) = 11 then
            zbnd (call 114 [x1, c x0 (zadd x3 1), c x0 (zadd x3 2), c x0 (zadd x3 3), c x0 (zadd x3 4)] c) (fun v1 c2 =>
              if c2 x0 (-1) = 99 ∧ (0 : Int) ≤ (zadd x3 1) ∧ (zadd x3 1) < c2 x0 (-2) then
                if c2 x0 (-1) = 99 ∧ (0 : Int) ≤ (zadd x3 2) ∧ (zadd x3 2) < c2 x0 (-2) then
                  if c2 x0 (-1) = 99 ∧ (0 : Int) ≤ (zadd x3 3) ∧ (zadd x3 3) < c2 x0 (-2) then
                    if c2 x0 (-1) = 99 ∧ (0 : Int) ≤ (zadd x3 4) ∧ (zadd x3 4) < c2 x0 (-2) then
                      if c2 x2 (-1) = 12 then
                        zbnd (call 196 [x2, c2 x0 (zadd x3 1), c2 x0 (zadd x3 2), c2 x0 (zadd x3 3), c2 x0 (zadd x3 4)] c2) (fun v3 c4 =>
                          if v1 = v3 then
                            K 18 [(2, x0), (2, x1), (2, x2), (0, zw (x3 + 7))] [] c4
                          else
                            some (0, c4))
                      else none
                    else none
                  else none
                else none
              else none)
          else none
        else none
      else none
    else none
  else none
def zb_16 (call : zCall) (K : zK) (x0 x1 x2 x3 : Int) (c : zC) : zR :=
  if c x0 (-1) = 99 ∧ (0 : Int) ≤ (zadd x3 1) ∧ (zadd x3 1) < c x0 (-2) then
    if c x0 (-1) = 99 ∧ (0 : Int) ≤ (zadd x3 2) ∧ (zadd x3 2) < c x0 (-2) then
      if c x1 (-1) = 11 then
        zbnd (call 115 [x1, c x0 (zadd x3 1), c x0 (zadd x3 2)] c) (fun v1 c2 =>
          if c2 x0 (-1) = 99 ∧ (0 : Int) ≤ (zadd x3 1) ∧ (zadd x3 1) < c2 x0 (-2) then
            if c2 x0 (-1) = 99 ∧ (0 : Int) ≤ (zadd x3 2) ∧ (zadd x3 2) < c2 x0 (-2) then
              if c2 x2 (-1) = 12 then
                zbnd (call 197 [x2, c2 x0 (zadd x3 1), c2 x0 (zadd x3 2)] c2) (fun v3 c4 =>
                  if v1 = v3 then
                    K 18 [(2, x0), (2, x1), (2, x2), (0, zw (x3 + 7))] [] c4
                  else
                    some (0, c4))
              else none
            else none
          else none)
      else none
    else none
  else none
def zb_17 (call : zCall) (K : zK) (x0 x1 x2 x3 : Int) (c : zC) : zR :=
  if c x0 (-1) = 99 ∧ (0 : Int) ≤ (zadd x3 1) ∧ (zadd x3 1) < c x0 (-2) then
    if c x0 (-1) = 99 ∧ (0 : Int) ≤ (zadd x3 2) ∧ (zadd x3 2) < c x0 (-2) then
      if c x1 (-1) = 11 then
        zbnd (call 116 [x1, c x0 (zadd x3 1), c x0 (zadd x3 2)] c) (fun v1 c2 =>
          if c2 x0 (-1) = 99 ∧ (0 : Int) ≤ (zadd x3 1) ∧ (zadd x3 1) < c2 x0 (-2) then
            if c2 x0 (-1) = 99 ∧ (0 : Int) ≤ (zadd x3 2) ∧ (zadd x3 2) < c2 x0 (-2) then
              if c2 x2 (-1) = 12 then
                zbnd (call 199 [x2, c2 x0 (zadd x3 1), c2 x0 (zadd x3 2)] c2) (fun v3 c4 =>
                  if v1 = v3 then
                    K 18 [(2, x0), (2, x1), (2, x2), (0, zw (x3 + 7))] [] c4
                  else
                    some (0, c4))
              else none
            else none
          else none)
      else none
    else none
  else none
def zb_18 (call : zCall) (K : zK) (x0 x1 x2 x3 : Int) (c : zC) : zR :=
  if c x0 (-1) = 99 ∧ (0 : Int) ≤ (zadd x3 1) ∧ (zadd x3 1) < c x0 (-2) then
    if c x0 (-1) = 99 ∧ (0 : Int) ≤ (zadd x3 2) ∧ (zadd x3 2) < c x0 (-2) then
      if c x1 (-1) = 11 then
        zbnd (call 117 [x1, c x0 (zadd x3 1), c x0 (zadd x3 2)] c) (fun v1 c2 =>
          if c2 x0 (-1) = 99 ∧ (0 : Int) ≤ (zadd x3 1) ∧ (zadd x3 1) < c2 x0 (-2) then
            if c2 x0 (-1) = 99 ∧ (0 : Int) ≤ (zadd x3 2) ∧ (zadd x3 2) < c2 x0 (-2) then
              if c2 x2 (-1) = 12 then
                zbnd (call 201 [x2, c2 x0 (zadd x3 1), c2 x0 (zadd x3 2)] c2) (fun v3 c4 =>
                  if v1 = v3 then
                    K 18 [(2, x0), (2, x1), (2, x2), (0, zw (x3 + 7))] [] c4
                  else
                    some (0, c4))
              else none
            else none
          else none)
      else none
    else none
  else none
def zb_19 (call : zCall) (K : zK) (x0 x1 x2 x3 : Int) (c : zC) : zR :=
  if c x0 (-1) = 99 ∧ (0 : Int) ≤ (zadd x3 1) ∧ (zadd x3 1) < c x0 (-2) then
    if c x0 (-1) = 99 ∧ (0 : Int) ≤ (zadd x3 2) ∧ (zadd x3 2) < c x0 (-2) then
      if c x1 (-1) = 11 then
        zbnd (call 118 [x1, c x0 (zadd x3 1), c x0 (zadd x3 2)] c) (fun v1 c2 =>
          if c2 x0 (-1) = 99 ∧ (0 : Int) ≤ (zadd x3 1) ∧ (zadd x3 1) < c2 x0 (-2) then
            if c2 x0 (-1) = 99 ∧ (0 : Int) ≤ (zadd x3 2) ∧ (zadd x3 2) < c2 x0 (-2) then
              if c2 x2 (-1) = 12 then
                zbnd (call 202 [x2, c2 x0 (zadd x3 1), c2 x0 (zadd x3 2)] c2) (fun v3 c4 =>
                  if v1 = v3 then
                    K 18 [(2, x0), (2, x1), (2, x2), (0, zw (x3 + 7))] [] c4
                  else
                    some (0, c4))
              else none
            else none
          else none)
      else none
    else none
  else none
def zb_20 (call : zCall) (K : zK) (x0 x1 x2 x3 : Int) (c : zC) : zR :=
  if c x0 (-1) = 99 ∧ (0 : Int) ≤ (zadd x3 1) ∧ (zadd x3 1) < c x0 (-2) then
    if c x1 (-1) = 11 then
      zbnd (call 119 [x1, c x0 (zadd x3 1)] c) (fun v1 c2 =>
        if c2 x0 (-1) = 99 ∧ (0 : Int) ≤ (zadd x3 1) ∧ (zadd x3 1) < c2 x0 (-2) then
          if c2 x2 (-1) = 12 then
            zbnd (call 203 [x2, c2 x0 (zadd x3 1)] c2) (fun v3 c4 =>
              if v1 = v3 then
                K 18 [(2, x0), (2, x1), (2, x2), (0, zw (x3 + 7))] [] c4
              else
                some (0, c4))
          else none
        else none)
    else none
  else none
def zb_21 (call : zCall) (K : zK) (x0 x1 x2 x3 : Int) (c : zC) : zR :=
  if c x1 (-1) = 11 then
    zbnd (call 120 [x1] c) (fun v1 c2 =>
      if c2 x2 (-1) = 12 then
        zbnd (call 204 [x2] c2) (fun v3 c4 =>
          if v1 = v3 then
            K 18 [(2, x0), (2, x1), (2, x2), (0, zw (x3 + 7))] [] c4
          else
            some (0, c4))
      else none)
  else none
def zb_22 (call : zCall) (K : zK) (x0 x1 x2 x3 : Int) (c : zC) : zR :=
  if c x1 (-1) = 11 then
    zbnd (call 121 [x1] c) (fun v1 c2 =>
      if c2 x2 (-1) = 12 then
        zbnd (call 205 [x2] c2) (fun v3 c4 =>
          if v1 = v3 then
            K 18 [(2, x0), (2, x1), (2, x2), (0, zw (x3 + 7))] [] c4
          else
            some (0, c4))
      else none)
  else none
def zb_23 (call : zCall) (K : zK) (x0 x1 x2 x3 : Int) (c : zC) : zR :=
  if c x1 (-1) = 11 then
    zbnd (call 122 [x1] c) (fun v1 c2 =>
      if c2 x2 (-1) = 12 then
        zbnd (call 206 [x2] c2) (fun v3 c4 =>
          if v1 = v3 then
            K 18 [(2, x0), (2, x1), (2, x2), (0, zw (x3 + 7))] [] c4
          else
            some (0, c4))
      else none)
  else none
def zb_24 (call : zCall) (K : zK) (x0 x1 x2 x3 : Int) (c : zC) : zR :=
  if c x0 (-1) = 99 ∧ (0 : Int) ≤ (zadd x3 1) ∧ (zadd x3 1) < c x0 (-2) then
    if c x1 (-1) = 11 then
      zbnd (call 123 [x1, c x0 (zadd x3 1)] c) (fun v1 c2 =>
        if c2 x0 (-1) = 99 ∧ (0 : Int) ≤ (zadd x3 1) ∧ (zadd x3 1) < c2 x0 (-2) then
          if c2 x2 (-1) = 12 then
            zbnd (call 207 [x2, c2 x0 (zadd x3 1)] c2) (fun v3 c4 =>
              if v1 = v3 then
                K 18 [(2, x0), (2, x1), (2, x2), (0, zw (x3 + 7))] [] c4
              else
                some (0, c4))
          else none
        else none)
    else none
  else none
def LSW (call : zCall) (K : zK) (x0 x1 x2 x3 s : Int) (c : zC) : zR :=
  if s = 0 then zb_0 call K x0 x1 x2 x3 c else
  if s = 1 then zb_1 call K x0 x1 x2 x3 c else
  if s = 2 then zb_2 call K x0 x1 x2 x3 c else
  if s = 3 then zb_3 call K x0 x1 x2 x3 c else
  if s = 4 then zb_4 call K x0 x1 x2 x3 c else
  if s = 5 then zb_5 call K x0 x1 x2 x3 c else
  if s = 6 then zb_6 call K x0 x1 x2 x3 c else
  if s = 7 then zb_7 call K x0 x1 x2 x3 c else
  if s = 8 then zb_8 call K x0 x1 x2 x3 c else
  if s = 9 then zb_9 call K x0 x1 x2 x3 c else
  if s = 10 then zb_10 call K x0 x1 x2 x3 c else
  if s = 11 then zb_11 call K x0 x1 x2 x3 c else
  if s = 12 then zb_12 call K x0 x1 x2 x3 c else
  if s = 13 then zb_13 call K x0 x1 x2 x3 c else
  if s = 14 then zb_14 call K x0 x1 x2 x3 c else
  if s = 15 then zb_15 call K x0 x1 x2 x3 c else
  if s = 16 then zb_16 call K x0 x1 x2 x3 c else
  if s = 17 then zb_17 call K x0 x1 x2 x3 c else
  if s = 18 then zb_18 call K x0 x1 x2 x3 c else
  if s = 19 then zb_19 call K x0 x1 x2 x3 c else
  if s = 20 then zb_20 call K x0 x1 x2 x3 c else
  if s = 21 then zb_21 call K x0 x1 x2 x3 c else
  if s = 22 then zb_22 call K x0 x1 x2 x3 c else
  if s = 23 then zb_23 call K x0 x1 x2 x3 c else
  if s = 24 then zb_24 call K x0 x1 x2 x3 c else
  K 18 [(2, x0), (2, x1), (2, x2), (0, zw (x3 + 7))] [] c
set_option maxRecDepth 100000 in
set_option maxHeartbeats 4000000 in
theorem zf_L_law_18 (call : zCall) (K : zK) (x0 x1 x2 x3 : Int) (c : zC) : zseg zc_L_law zk_L_law call K 1000 18 [(2, x0), (2, x1), (2, x2), (0, x3)] [] c =
  if c x0 (-1) = 99 then
    if x3 ≤ (zsub (c x0 (-2)) 7) then
      if c x0 (-1) = 99 ∧ (0 : Int) ≤ x3 ∧ x3 < c x0 (-2) then
        LSW call K x0 x1 x2 x3 (ziand (c x0 x3) 31) c
      else none
    else
      some (1, c)
  else none := by rfl
theorem ze_L_law_18 (d F : Nat) (x0 x1 x2 x3 : Int) (c : zC) : zex zc_L_law zk_L_law (zrun zTab d) (F + 1) 18 [(2, x0), (2, x1), (2, x2), (0, x3)] [] c =
  if c x0 (-1) = 99 then
    if x3 ≤ (zsub (c x0 (-2)) 7) then
      if c x0 (-1) = 99 ∧ (0 : Int) ≤ x3 ∧ x3 < c x0 (-2) then
        LSW (zrun zTab d) (zex zc_L_law zk_L_law (zrun zTab d) F) x0 x1 x2 x3 (ziand (c x0 x3) 31) c
      else none
    else
      some (1, c)
  else none := zf_L_law_18 _ _ x0 x1 x2 x3 c
