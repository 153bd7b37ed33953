set_option maxRecDepth 100000 in
theorem zf_X8_init (call : zCall) (K : zK) (this : Int) (c : zC) : zseg zc_X8_init zk_X8_init call K 1000 0 [(2, this), (3, 0)] [] c =
  if this = 0 then none else
    if (znew c 114 4) this (-1) = 9 then
      K 12 [(2, this), (3, 0)] [] (zup (znew c 114 4) this 0 (c 0 0))
    else none := by rfl
theorem ze_X8_init (d : Nat) (this : Int) (c : zC) : zrun zTab (d + 1) 66 [this] c =
  if this = 0 then none else
    if (znew c 114 4) this (-1) = 9 then
      zex zc_X8_init zk_X8_init (zrun zTab d) 19999 12 [(2, this), (3, 0)] [] (zup (znew c 114 4) this 0 (c 0 0))
    else none := (zrun_s zt66).trans (zf_X8_init _ _ this c)
set_option maxRecDepth 100000 in
theorem zf_X8_init_12 (call : zCall) (K : zK) (this : Int) (c : zC) : zseg zc_X8_init zk_X8_init call K 1000 12 [(2, this), (3, 0)] [] c =
  if (znew c 117 8) this (-1) = 9 then
    K 21 [(2, this), (3, 0)] [] (zup (znew c 117 8) this 1 (c 0 0))
  else none := by rfl
theorem ze_X8_init_12 (d F : Nat) (this : Int) (c : zC) : zex zc_X8_init zk_X8_init (zrun zTab d) (F + 1) 12 [(2, this), (3, 0)] [] c =
  if (znew c 117 8) this (-1) = 9 then
    zex zc_X8_init zk_X8_init (zrun zTab d) F 21 [(2, this), (3, 0)] [] (zup (znew c 117 8) this 1 (c 0 0))
  else none := zf_X8_init_12 _ _ this c
set_option maxRecDepth 100000 in
theorem zf_X8_init_21 (call : zCall) (K : zK) (this : Int) (c : zC) : zseg zc_X8_init zk_X8_init call K 1000 21 [(2, this), (3, 0)] [] c =
  if (znew c 116 6) this (-1) = 9 then
    K 30 [(2, this), (3, 0)] [] (zup (znew c 116 6) this 2 (c 0 0))
  else none := by rfl
theorem ze_X8_init_21 (d F : Nat) (this : Int) (c : zC) : zex zc_X8_init zk_X8_init (zrun zTab d) (F + 1) 21 [(2, this), (3, 0)] [] c =
  if (znew c 116 6) this (-1) = 9 then
    zex zc_X8_init zk_X8_init (zrun zTab d) F 30 [(2, this), (3, 0)] [] (zup (znew c 116 6) this 2 (c 0 0))
  else none := zf_X8_init_21 _ _ this c
set_option maxRecDepth 100000 in
theorem zf_X8_init_30 (call : zCall) (K : zK) (this : Int) (c : zC) : zseg zc_X8_init zk_X8_init call K 1000 30 [(2, this), (3, 0)] [] c =
  if c this (-1) = 9 then
    K 35 [(2, this), (3, 0)] [] (zup c this 5 3)
  else none := by rfl
theorem ze_X8_init_30 (d F : Nat) (this : Int) (c : zC) : zex zc_X8_init zk_X8_init (zrun zTab d) (F + 1) 30 [(2, this), (3, 0)] [] c =
  if c this (-1) = 9 then
    zex zc_X8_init zk_X8_init (zrun zTab d) F 35 [(2, this), (3, 0)] [] (zup c this 5 3)
  else none := zf_X8_init_30 _ _ this c
set_option maxRecDepth 100000 in
theorem zf_X8_init_35 (call : zCall) (K : zK) (this : Int) (c : zC) : zseg zc_X8_init zk_X8_init call K 1000 35 [(2, this), (3, 0)] [] c =
  if c this (-1) = 9 then
    K 40 [(2, this), (3, 0)] [] (zup c this 6 0)
  else none := by rfl
theorem ze_X8_init_35 (d F : Nat) (this : Int) (c : zC) : zex zc_X8_init zk_X8_init (zrun zTab d) (F + 1) 35 [(2, this), (3, 0)] [] c =
  if c this (-1) = 9 then
    zex zc_X8_init zk_X8_init (zrun zTab d) F 40 [(2, this), (3, 0)] [] (zup c this 6 0)
  else none := zf_X8_init_35 _ _ this c
set_option maxRecDepth 100000 in
theorem zf_X8_init_40 (call : zCall) (K : zK) (this : Int) (c : zC) : zseg zc_X8_init zk_X8_init call K 1000 40 [(2, this), (3, 0)] [] c =
  K 42 [(2, this), (0, 0)] [] c := by rfl
theorem ze_X8_init_40 (d F : Nat) (this : Int) (c : zC) : zex zc_X8_init zk_X8_init (zrun zTab d) (F + 1) 40 [(2, this), (3, 0)] [] c =
  zex zc_X8_init zk_X8_init (zrun zTab d) F 42 [(2, this), (0, 0)] [] c := zf_X8_init_40 _ _ this c
set_option maxRecDepth 100000 in
theorem zf_X8_init_42 (call : zCall) (K : zK) (this x1 : Int) (c : zC) : zseg zc_X8_init zk_X8_init call K 1000 42 [(2, this), (0, x1)] [] c =
  if c this (-1) = 9 then
    if c (c this 0) (-1) = 114 then
      if x1 < (c (c this 0) (-2)) then
        if c this (-1) = 9 then
          if (znew c 5 4) (c 0 0) (-1) = 5 then
            zbnd (call 41 [c 0 0] (znew c 5 4)) (fun _ c2 =>
              if c2 (c this 0) (-1) = 114 ∧ (0 : Int) ≤ x1 ∧ x1 < c2 (c this 0) (-2) then
                if c2 (c 0 0) (-1) = 5 then
                  K 42 [(2, this), (0, zw (x1 + 1))] [] (zup c2 (c this 0) x1 (c 0 0))
                else none
              else none)
          else none
        else none
      else
        K 72 [(2, this), (0, 0)] [] c
    else none
  else none := by rfl
theorem ze_X8_init_42 (d F : Nat) (this x1 : Int) (c : zC) : zex zc_X8_init zk_X8_init (zrun zTab d) (F + 1) 42 [(2, this), (0, x1)] [] c =
  if c this (-1) = 9 then
    if c (c this 0) (-1) = 114 then
      if x1 < (c (c this 0) (-2)) then
        if c this (-1) = 9 then
          if (znew c 5 4) (c 0 0) (-1) = 5 then
            zbnd (zrun zTab d 41 [c 0 0] (znew c 5 4)) (fun _ c2 =>
              if c2 (c this 0) (-1) = 114 ∧ (0 : Int) ≤ x1 ∧ x1 < c2 (c this 0) (-2) then
                if c2 (c 0 0) (-1) = 5 then
                  zex zc_X8_init zk_X8_init (zrun zTab d) F 42 [(2, this), (0, zw (x1 + 1))] [] (zup c2 (c this 0) x1 (c 0 0))
                else none
              else none)
          else none
        else none
      else
        zex zc_X8_init zk_X8_init (zrun zTab d) F 72 [(2, this), (0, 0)] [] c
    else none
  else none := zf_X8_init_42 _ _ this x1 c
set_option maxRecDepth 100000 in
theorem zf_X8_init_72 (call : zCall) (K : zK) (this x1 : Int) (c : zC) : zseg zc_X8_init zk_X8_init call K 1000 72 [(2, this), (0, x1)] [] c =
  if c this (-1) = 9 then
    if c (c this 1) (-1) = 117 then
      if x1 < (c (c this 1) (-2)) then
        if c this (-1) = 9 then
          if (znew c 8 4) (c 0 0) (-1) = 8 then
            zbnd (call 62 [c 0 0] (znew c 8 4)) (fun _ c2 =>
              if c2 (c this 1) (-1) = 117 ∧ (0 : Int) ≤ x1 ∧ x1 < c2 (c this 1) (-2) then
                if c2 (c 0 0) (-1) = 8 then
                  K 72 [(2, this), (0, zw (x1 + 1))] [] (zup c2 (c this 1) x1 (c 0 0))
                else none
              else none)
          else none
        else none
      else
        K 102 [(2, this), (0, 0)] [] c
    else none
  else none := by rfl
theorem ze_X8_init_72 (d F : Nat) (this x1 : Int) (c : zC) : zex zc_X8_init zk_X8_init (zrun zTab d) (F + 1) 72 [(2, this), (0, x1)] [] c =
  if c this (-1) = 9 then
    if c (c this 1) (-1) = 117 then
      if x1 < (c (c this 1) (-2)) then
        if c this (-1) = 9 then
          if (znew c 8 4) (c 0 0) (-1) = 8 then
            zbnd (zrun zTab d 62 [c 0 0] (znew c 8 4)) (fun _ c2 =>
              if c2 (c this 1) (-1) = 117 ∧ (0 : Int) ≤ x1 ∧ x1 < c2 (c this 1) (-2) then
                if c2 (c 0 0) (-1) = 8 then
                  zex zc_X8_init zk_X8_init (zrun zTab d) F 72 [(2, this), (0, zw (x1 + 1))] [] (zup c2 (c this 1) x1 (c 0 0))
                else none
              else none)
          else none
        else none
      else
        zex zc_X8_init zk_X8_init (zrun zTab d) F 102 [(2, this), (0, 0)] [] c
    else none
  else none := zf_X8_init_72 _ _ this x1 c
set_option maxRecDepth 100000 in
theorem zf_X8_init_102 (call : zCall) (K : zK) (this x1 : Int) (c : zC) : zseg zc_X8_init zk_X8_init call K 1000 102 [(2, this), (0, x1)] [] c =
  if c this (-1) = 9 then
    if c (c this 2) (-1) = 116 then
      if x1 < (c (c this 2) (-2)) then
        if c this (-1) = 9 then
          if (znew c 7 4) (c 0 0) (-1) = 7 then
            zbnd (call 58 [c 0 0] (znew c 7 4)) (fun _ c2 =>
              if c2 (c this 2) (-1) = 116 ∧ (0 : Int) ≤ x1 ∧ x1 < c2 (c this 2) (-2) then
                if c2 (c 0 0) (-1) = 7 then
                  K 102 [(2, this), (0, zw (x1 + 1))] [] (zup c2 (c this 2) x1 (c 0 0))
                else none
              else none)
          else none
        else none
      else
        some (0, c)
    else none
  else none := by rfl
theorem ze_X8_init_102 (d F : Nat) (this x1 : Int) (c : zC) : zex zc_X8_init zk_X8_init (zrun zTab d) (F + 1) 102 [(2, this), (0, x1)] [] c =
  if c this (-1) = 9 then
    if c (c this 2) (-1) = 116 then
      if x1 < (c (c this 2) (-2)) then
        if c this (-1) = 9 then
          if (znew c 7 4) (c 0 0) (-1) = 7 then
            zbnd (zrun zTab d 58 [c 0 0] (znew c 7 4)) (fun _ c2 =>
              if c2 (c this 2) (-1) = 116 ∧ (0 : Int) ≤ x1 ∧ x1 < c2 (c this 2) (-2) then
                if c2 (c 0 0) (-1) = 7 then
                  zex zc_X8_init zk_X8_init (zrun zTab d) F 102 [(2, this), (0, zw (x1 + 1))] [] (zup c2 (c this 2) x1 (c 0 0))
                else none
              else none)
          else none
        else none
      else
        some (0, c)
    else none
  else none := zf_X8_init_102 _ _ this x1 c
set_option maxRecDepth 100000 in
theorem zf_X8_pageAt (call : zCall) (K : zK) (this x1 : Int) (c : zC) : zseg zc_X8_pageAt zk_X8_pageAt call K 1000 0 [(2, this), (0, x1)] [] c =
  if x1 < 0 then
    some (0, c)
  else
    if c this (-1) = 9 then
      if c (c this 0) (-1) = 114 then
        if x1 < (c (c this 0) (-2)) then
          if c this (-1) = 9 then
            if c (c this 0) (-1) = 114 ∧ (0 : Int) ≤ x1 ∧ x1 < c (c this 0) (-2) then
              some (c (c this 0) x1, c)
            else none
          else none
        else
          some (0, c)
      else none
    else none := by rfl
theorem ze_X8_pageAt (d : Nat) (this x1 : Int) (c : zC) : zrun zTab (d + 1) 67 [this, x1] c =
  if x1 < 0 then
    some (0, c)
  else
    if c this (-1) = 9 then
      if c (c this 0) (-1) = 114 then
        if x1 < (c (c this 0) (-2)) then
          if c this (-1) = 9 then
            if c (c this 0) (-1) = 114 ∧ (0 : Int) ≤ x1 ∧ x1 < c (c this 0) (-2) then
              some (c (c this 0) x1, c)
            else none
          else none
        else
          some (0, c)
      else none
    else none := (zrun_s zt67).trans (zf_X8_pageAt _ _ this x1 c)
set_option maxRecDepth 100000 in
theorem zf_X8_senseAt (call : zCall) (K : zK) (this x1 : Int) (c : zC) : zseg zc_X8_senseAt zk_X8_senseAt call K 1000 0 [(2, this), (0, x1)] [] c =
  if x1 < 0 then
    some (0, c)
  else
    if c this (-1) = 9 then
      if x1 < (c this 3) then
        if c this (-1) = 9 then
          if c (c this 1) (-1) = 117 then
            if x1 < (c (c this 1) (-2)) then
              if c this (-1) = 9 then
                if c (c this 1) (-1) = 117 ∧ (0 : Int) ≤ x1 ∧ x1 < c (c this 1) (-2) then
                  some (c (c this 1) x1, c)
                else none
              else none
            else
              some (0, c)
          else none
        else none
      else
        some (0, c)
    else none := by rfl
theorem ze_X8_senseAt (d : Nat) (this x1 : Int) (c : zC) : zrun zTab (d + 1) 68 [this, x1] c =
  if x1 < 0 then
    some (0, c)
  else
    if c this (-1) = 9 then
      if x1 < (c this 3) then
        if c this (-1) = 9 then
          if c (c this 1) (-1) = 117 then
            if x1 < (c (c this 1) (-2)) then
              if c this (-1) = 9 then
                if c (c this 1) (-1) = 117 ∧ (0 : Int) ≤ x1 ∧ x1 < c (c this 1) (-2) then
                  some (c (c this 1) x1, c)
                else none
              else none
            else
              some (0, c)
          else none
        else none
      else
        some (0, c)
    else none := (zrun_s zt68).trans (zf_X8_senseAt _ _ this x1 c)
set_option maxRecDepth 100000 in
theorem zf_X8_ruleAt (call : zCall) (K : zK) (this x1 : Int) (c : zC) : zseg zc_X8_ruleAt zk_X8_ruleAt call K 1000 0 [(2, this), (0, x1)] [] c =
  if x1 < 0 then
    some (0, c)
  else
    if c this (-1) = 9 then
      if x1 < (c this 4) then
        if c this (-1) = 9 then
          if c (c this 2) (-1) = 116 then
            if x1 < (c (c this 2) (-2)) then
              if c this (-1) = 9 then
                if c (c this 2) (-1) = 116 ∧ (0 : Int) ≤ x1 ∧ x1 < c (c this 2) (-2) then
                  some (c (c this 2) x1, c)
                else none
              else none
            else
              some (0, c)
          else none
        else none
      else
        some (0, c)
    else none := by rfl
theorem ze_X8_ruleAt (d : Nat) (this x1 : Int) (c : zC) : zrun zTab (d + 1) 69 [this, x1] c =
  if x1 < 0 then
    some (0, c)
  else
    if c this (-1) = 9 then
      if x1 < (c this 4) then
        if c this (-1) = 9 then
          if c (c this 2) (-1) = 116 then
            if x1 < (c (c this 2) (-2)) then
              if c this (-1) = 9 then
                if c (c this 2) (-1) = 116 ∧ (0 : Int) ≤ x1 ∧ x1 < c (c this 2) (-2) then
                  some (c (c this 2) x1, c)
                else none
              else none
            else
              some (0, c)
          else none
        else none
      else
        some (0, c)
    else none := (zrun_s zt69).trans (zf_X8_ruleAt _ _ this x1 c)
set_option maxRecDepth 100000 in
theorem zf_X8_isHead (call : zCall) (K : zK) (this x1 : Int) (c : zC) : zseg zc_X8_isHead zk_X8_isHead call K 1000 0 [(2, this), (1, x1), (3, 0), (3, 0), (3, 0)] [] c =
  K 2 [(2, this), (1, x1), (3, 0), (0, 0), (3, 0)] [] c := by rfl
theorem ze_X8_isHead (d : Nat) (this x1 : Int) (c : zC) : zrun zTab (d + 1) 70 [this, x1] c =
  zex zc_X8_isHead zk_X8_isHead (zrun zTab d) 19999 2 [(2, this), (1, x1), (3, 0), (0, 0), (3, 0)] [] c := (zrun_s zt70).trans (zf_X8_isHead _ _ this x1 c)
set_option maxRecDepth 100000 in
theorem zf_X8_isHead_2 (call : zCall) (K : zK) (this x1 x3 : Int) (c : zC) : zseg zc_X8_isHead zk_X8_isHead call K 1000 2 [(2, this), (1, x1), (3, 0), (0, x3), (3, 0)] [] c =
  if c this (-1) = 9 then
    if x3 < (c this 3) then
      if c this (-1) = 9 then
        zbnd (call 68 [this, x3] c) (fun v1 c2 =>
          if v1 = 0 then
            K 2 [(2, this), (1, x1), (3, 0), (0, zw (x3 + 1)), (3, 0)] [] c2
          else
            if c2 v1 (-1) = 8 then
              if (if x1 < c2 v1 0 then 1 else if c2 v1 0 = x1 then 0 else -1) = 0 then
                some (1, c2)
              else
                K 2 [(2, this), (1, x1), (3, 0), (0, zw (x3 + 1)), (3, 0)] [] c2
            else none)
      else none
    else
      some (0, c)
  else none := by rfl
theorem ze_X8_isHead_2 (d F : Nat) (this x1 x3 : Int) (c : zC) : zex zc_X8_isHead zk_X8_isHead (zrun zTab d) (F + 1) 2 [(2, this), (1, x1), (3, 0), (0, x3), (3, 0)] [] c =
  if c this (-1) = 9 then
    if x3 < (c this 3) then
      if c this (-1) = 9 then
        zbnd (zrun zTab d 68 [this, x3] c) (fun v1 c2 =>
          if v1 = 0 then
            zex zc_X8_isHead zk_X8_isHead (zrun zTab d) F 2 [(2, this), (1, x1), (3, 0), (0, zw (x3 + 1)), (3, 0)] [] c2
          else
            if c2 v1 (-1) = 8 then
              if (if x1 < c2 v1 0 then 1 else if c2 v1 0 = x1 then 0 else -1) = 0 then
                some (1, c2)
              else
                zex zc_X8_isHead zk_X8_isHead (zrun zTab d) F 2 [(2, this), (1, x1), (3, 0), (0, zw (x3 + 1)), (3, 0)] [] c2
            else none)
      else none
    else
      some (0, c)
  else none := zf_X8_isHead_2 _ _ this x1 x3 c
set_option maxRecDepth 100000 in
theorem zf_X8_addSense (call : zCall) (K : zK) (this x1 : Int) (c : zC) : zseg zc_X8_addSense zk_X8_addSense call K 1000 0 [(2, this), (2, x1), (3, 0)] [] c =
  if c this (-1) = 9 then
    if (c this 3) < 0 then
      K 31 [(2, this), (2, x1), (3, 0)] [] c
    else
      if c this (-1) = 9 then
        if c this (-1) = 9 then
          if c (c this 1) (-1) = 117 then
            if (c this 3) < (c (c this 1) (-2)) then
              if c this (-1) = 9 then
                if c this (-1) = 9 then
                  if c (c this 1) (-1) = 117 ∧ (0 : Int) ≤ (c this 3) ∧ (c this 3) < c (c this 1) (-2) then
                    if (c (c this 1) (c this 3)) = 0 then
                      some (0, c)
                    else
                      if c (c (c this 1) (c this 3)) (-1) = 8 then
                        zbnd (call 65 [c (c this 1) (c this 3), x1] c) (fun _ c2 =>
                          if c2 this (-1) = 9 then
                            if c2 this (-1) = 9 then
                              some (0, zup c2 this 3 (zadd (c2 this 3) 1))
                            else none
                          else none)
                      else none
                  else none
                else none
              else none
            else
              K 31 [(2, this), (2, x1), (3, 0)] [] c
          else none
        else none
      else none
  else none := by rfl
theorem ze_X8_addSense (d : Nat) (this x1 : Int) (c : zC) : zrun zTab (d + 1) 71 [this, x1] c =
  if c this (-1) = 9 then
    if (c this 3) < 0 then
      zex zc_X8_addSense zk_X8_addSense (zrun zTab d) 19999 31 [(2, this), (2, x1), (3, 0)] [] c
    else
      if c this (-1) = 9 then
        if c this (-1) = 9 then
          if c (c this 1) (-1) = 117 then
            if (c this 3) < (c (c this 1) (-2)) then
              if c this (-1) = 9 then
                if c this (-1) = 9 then
                  if c (c this 1) (-1) = 117 ∧ (0 : Int) ≤ (c this 3) ∧ (c this 3) < c (c this 1) (-2) then
                    if (c (c this 1) (c this 3)) = 0 then
                      some (0, c)
                    else
                      if c (c (c this 1) (c this 3)) (-1) = 8 then
                        zbnd (zrun zTab d 65 [c (c this 1) (c this 3), x1] c) (fun _ c2 =>
                          if c2 this (-1) = 9 then
                            if c2 this (-1) = 9 then
                              some (0, zup c2 this 3 (zadd (c2 this 3) 1))
                            else none
                          else none)
                      else none
                  else none
                else none
              else none
            else
              zex zc_X8_addSense zk_X8_addSense (zrun zTab d) 19999 31 [(2, this), (2, x1), (3, 0)] [] c
          else none
        else none
      else none
  else none := (zrun_s zt71).trans (zf_X8_addSense _ _ this x1 c)
set_option maxRecDepth 100000 in
theorem zf_X8_addSense_31 (call : zCall) (K : zK) (this x1 : Int) (c : zC) : zseg zc_X8_addSense zk_X8_addSense call K 1000 31 [(2, this), (2, x1), (3, 0)] [] c =
  if 0 = 0 then
    some (0, c)
  else
    if c 0 (-1) = 8 then
      zbnd (call 65 [0, x1] c) (fun _ c2 =>
        if c2 this (-1) = 9 then
          if c2 this (-1) = 9 then
            some (0, zup c2 this 3 (zadd (c2 this 3) 1))
          else none
        else none)
    else none := by rfl
theorem ze_X8_addSense_31 (d F : Nat) (this x1 : Int) (c : zC) : zex zc_X8_addSense zk_X8_addSense (zrun zTab d) (F + 1) 31 [(2, this), (2, x1), (3, 0)] [] c =
  if 0 = 0 then
    some (0, c)
  else
    if c 0 (-1) = 8 then
      zbnd (zrun zTab d 65 [0, x1] c) (fun _ c2 =>
        if c2 this (-1) = 9 then
          if c2 this (-1) = 9 then
            some (0, zup c2 this 3 (zadd (c2 this 3) 1))
          else none
        else none)
    else none := zf_X8_addSense_31 _ _ this x1 c
set_option maxRecDepth 100000 in
theorem zf_X8_addRule (call : zCall) (K : zK) (this x1 : Int) (c : zC) : zseg zc_X8_addRule zk_X8_addRule call K 1000 0 [(2, this), (2, x1), (3, 0)] [] c =
  if c this (-1) = 9 then
    if (c this 4) < 0 then
      K 31 [(2, this), (2, x1), (3, 0)] [] c
    else
      if c this (-1) = 9 then
        if c this (-1) = 9 then
          if c (c this 2) (-1) = 116 then
            if (c this 4) < (c (c this 2) (-2)) then
              if c this (-1) = 9 then
                if c this (-1) = 9 then
                  if c (c this 2) (-1) = 116 ∧ (0 : Int) ≤ (c this 4) ∧ (c this 4) < c (c this 2) (-2) then
                    if (c (c this 2) (c this 4)) = 0 then
                      some (0, c)
                    else
                      if c (c (c this 2) (c this 4)) (-1) = 7 then
                        zbnd (call 61 [c (c this 2) (c this 4), x1] c) (fun _ c2 =>
                          if c2 this (-1) = 9 then
                            if c2 this (-1) = 9 then
                              some (0, zup c2 this 4 (zadd (c2 this 4) 1))
                            else none
                          else none)
                      else none
                  else none
                else none
              else none
            else
              K 31 [(2, this), (2, x1), (3, 0)] [] c
          else none
        else none
      else none
  else none := by rfl
theorem ze_X8_addRule (d : Nat) (this x1 : Int) (c : zC) : zrun zTab (d + 1) 72 [this, x1] c =
  if c this (-1) = 9 then
    if (c this 4) < 0 then
      zex zc_X8_addRule zk_X8_addRule (zrun zTab d) 19999 31 [(2, this), (2, x1), (3, 0)] [] c
    else
      if c this (-1) = 9 then
        if c this (-1) = 9 then
          if c (c this 2) (-1) = 116 then
            if (c this 4) < (c (c this 2) (-2)) then
              if c this (-1) = 9 then
                if c this (-1) = 9 then
                  if c (c this 2) (-1) = 116 ∧ (0 : Int) ≤ (c this 4) ∧ (c this 4) < c (c this 2) (-2) then
                    if (c (c this 2) (c this 4)) = 0 then
                      some (0, c)
                    else
                      if c (c (c this 2) (c this 4)) (-1) = 7 then
                        zbnd (zrun zTab d 61 [c (c this 2) (c this 4), x1] c) (fun _ c2 =>
                          if c2 this (-1) = 9 then
                            if c2 this (-1) = 9 then
                              some (0, zup c2 this 4 (zadd (c2 this 4) 1))
                            else none
                          else none)
                      else none
                  else none
                else none
              else none
            else
              zex zc_X8_addRule zk_X8_addRule (zrun zTab d) 19999 31 [(2, this), (2, x1), (3, 0)] [] c
          else none
        else none
      else none
  else none := (zrun_s zt72).trans (zf_X8_addRule _ _ this x1 c)
set_option maxRecDepth 100000 in
theorem zf_X8_addRule_31 (call : zCall) (K : zK) (this x1 : Int) (c : zC) : zseg zc_X8_addRule zk_X8_addRule call K 1000 31 [(2, this), (2, x1), (3, 0)] [] c =
  if 0 = 0 then
    some (0, c)
  else
    if c 0 (-1) = 7 then
      zbnd (call 61 [0, x1] c) (fun _ c2 =>
        if c2 this (-1) = 9 then
          if c2 this (-1) = 9 then
            some (0, zup c2 this 4 (zadd (c2 this 4) 1))
          else none
        else none)
    else none := by rfl
theorem ze_X8_addRule_31 (d F : Nat) (this x1 : Int) (c : zC) : zex zc_X8_addRule zk_X8_addRule (zrun zTab d) (F + 1) 31 [(2, this), (2, x1), (3, 0)] [] c =
  if 0 = 0 then
    some (0, c)
  else
    if c 0 (-1) = 7 then
      zbnd (zrun zTab d 61 [0, x1] c) (fun _ c2 =>
        if c2 this (-1) = 9 then
          if c2 this (-1) = 9 then
            some (0, zup c2 this 4 (zadd (c2 this 4) 1))
          else none
        else none)
    else none := zf_X8_addRule_31 _ _ this x1 c
set_option maxRecDepth 100000 in
theorem zf_X8_dropSense (call : zCall) (K : zK) (this x1 : Int) (c : zC) : zseg zc_X8_dropSense zk_X8_dropSense call K 1000 0 [(2, this), (0, x1), (3, 0), (3, 0)] [] c =
  if c this (-1) = 9 then
    zbnd (call 68 [this, x1] c) (fun v1 c2 =>
      if v1 = 0 then
        some (0, c2)
      else
        if c2 this (-1) = 9 then
          if c2 this (-1) = 9 then
            if c2 (c2 this 1) (-1) = 117 then
              if (c2 this 3) ≤ (c2 (c2 this 1) (-2)) then
                K 25 [(2, this), (3, 0), (2, v1), (0, x1)] [] c2
              else
                some (0, c2)
            else none
          else none
        else none)
  else none := by rfl
theorem ze_X8_dropSense (d : Nat) (this x1 : Int) (c : zC) : zrun zTab (d + 1) 73 [this, x1] c =
  if c this (-1) = 9 then
    zbnd (zrun zTab d 68 [this, x1] c) (fun v1 c2 =>
      if v1 = 0 then
        some (0, c2)
      else
        if c2 this (-1) = 9 then
          if c2 this (-1) = 9 then
            if c2 (c2 this 1) (-1) = 117 then
              if (c2 this 3) ≤ (c2 (c2 this 1) (-2)) then
                zex zc_X8_dropSense zk_X8_dropSense (zrun zTab d) 19999 25 [(2, this), (3, 0), (2, v1), (0, x1)] [] c2
              else
                some (0, c2)
            else none
          else none
        else none)
  else none := (zrun_s zt73).trans (zf_X8_dropSense _ _ this x1 c)
set_option maxRecDepth 100000 in
theorem zf_X8_dropSense_25 (call : zCall) (K : zK) (this x2 x3 : Int) (c : zC) : zseg zc_X8_dropSense zk_X8_dropSense call K 1000 25 [(2, this), (3, 0), (2, x2), (0, x3)] [] c =
  if c this (-1) = 9 then
    if (zadd x3 1) < (c this 3) then
      if c this (-1) = 9 then
        if c this (-1) = 9 then
          if c (c this 1) (-1) = 117 ∧ (0 : Int) ≤ (zadd x3 1) ∧ (zadd x3 1) < c (c this 1) (-2) then
            if c (c this 1) (-1) = 117 ∧ (0 : Int) ≤ x3 ∧ x3 < c (c this 1) (-2) then
              if c (c (c this 1) (zadd x3 1)) (-1) = 8 then
                K 25 [(2, this), (3, 0), (2, x2), (0, zw (x3 + 1))] [] (zup c (c this 1) x3 (c (c this 1) (zadd x3 1)))
              else none
            else none
          else none
        else none
      else none
    else
      if c this (-1) = 9 then
        if c this (-1) = 9 then
          if (zup c this 3 (zsub (c this 3) 1)) this (-1) = 9 then
            if (zup c this 3 (zsub (c this 3) 1)) this (-1) = 9 then
              if (zup c this 3 (zsub (c this 3) 1)) ((zup c this 3 (zsub (c this 3) 1)) this 1) (-1) = 117 ∧ (0 : Int) ≤ ((zup c this 3 (zsub (c this 3) 1)) this 3) ∧ ((zup c this 3 (zsub (c this 3) 1)) this 3) < (zup c this 3 (zsub (c this 3) 1)) ((zup c this 3 (zsub (c this 3) 1)) this 1) (-2) then
                if (zup c this 3 (zsub (c this 3) 1)) x2 (-1) = 8 then
                  some (0, zup (zup c this 3 (zsub (c this 3) 1)) ((zup c this 3 (zsub (c this 3) 1)) this 1) ((zup c this 3 (zsub (c this 3) 1)) this 3) x2)
                else none
              else none
            else none
          else none
        else none
      else none
  else none := by rfl
theorem ze_X8_dropSense_25 (d F : Nat) (this x2 x3 : Int) (c : zC) : zex zc_X8_dropSense zk_X8_dropSense (zrun zTab d) (F + 1) 25 [(2, this), (3, 0), (2, x2), (0, x3)] [] c =
  if c this (-1) = 9 then
    if (zadd x3 1) < (c this 3) then
      if c this (-1) = 9 then
        if c this (-1) = 9 then
          if c (c this 1) (-1) = 117 ∧ (0 : Int) ≤ (zadd x3 1) ∧ (zadd x3 1) < c (c this 1) (-2) then
            if c (c this 1) (-1) = 117 ∧ (0 : Int) ≤ x3 ∧ x3 < c (c this 1) (-2) then
              if c (c (c this 1) (zadd x3 1)) (-1) = 8 then
                zex zc_X8_dropSense zk_X8_dropSense (zrun zTab d) F 25 [(2, this), (3, 0), (2, x2), (0, zw (x3 + 1))] [] (zup c (c this 1) x3 (c (c this 1) (zadd x3 1)))
              else none
            else none
          else none
        else none
      else none
    else
      if c this (-1) = 9 then
        if c this (-1) = 9 then
          if (zup c this 3 (zsub (c this 3) 1)) this (-1) = 9 then
            if (zup c this 3 (zsub (c this 3) 1)) this (-1) = 9 then
              if (zup c this 3 (zsub (c this 3) 1)) ((zup c this 3 (zsub (c this 3) 1)) this 1) (-1) = 117 ∧ (0 : Int) ≤ ((zup c this 3 (zsub (c this 3) 1)) this 3) ∧ ((zup c this 3 (zsub (c this 3) 1)) this 3) < (zup c this 3 (zsub (c this 3) 1)) ((zup c this 3 (zsub (c this 3) 1)) this 1) (-2) then
                if (zup c this 3 (zsub (c this 3) 1)) x2 (-1) = 8 then
                  some (0, zup (zup c this 3 (zsub (c this 3) 1)) ((zup c this 3 (zsub (c this 3) 1)) this 1) ((zup c this 3 (zsub (c this 3) 1)) this 3) x2)
                else none
              else none
            else none
          else none
        else none
      else none
  else none := zf_X8_dropSense_25 _ _ this x2 x3 c
set_option maxRecDepth 100000 in
theorem zf_X8_dropRule (call : zCall) (K : zK) (this x1 : Int) (c : zC) : zseg zc_X8_dropRule zk_X8_dropRule call K 1000 0 [(2, this), (0, x1), (3, 0), (3, 0)] [] c =
  if c this (-1) = 9 then
    zbnd (call 69 [this, x1] c) (fun v1 c2 =>
      if v1 = 0 then
        some (0, c2)
      else
        if c2 this (-1) = 9 then
          if c2 this (-1) = 9 then
            if c2 (c2 this 2) (-1) = 116 then
              if (c2 this 4) ≤ (c2 (c2 this 2) (-2)) then
                K 25 [(2, this), (3, 0), (2, v1), (0, x1)] [] c2
              else
                some (0, c2)
            else none
          else none
        else none)
  else none := by rfl
theorem ze_X8_dropRule (d : Nat) (this x1 : Int) (c : zC) : zrun zTab (d + 1) 74 [this, x1] c =
  if c this (-1) = 9 then
    zbnd (zrun zTab d 69 [this, x1] c) (fun v1 c2 =>
      if v1 = 0 then
        some (0, c2)
      else
        if c2 this (-1) = 9 then
          if c2 this (-1) = 9 then
            if c2 (c2 this 2) (-1) = 116 then
              if (c2 this 4) ≤ (c2 (c2 this 2) (-2)) then
                zex zc_X8_dropRule zk_X8_dropRule (zrun zTab d) 19999 25 [(2, this), (3, 0), (2, v1), (0, x1)] [] c2
              else
                some (0, c2)
            else none
          else none
        else none)
  else none := (zrun_s zt74).trans (zf_X8_dropRule _ _ this x1 c)
set_option maxRecDepth 100000 in
theorem zf_X8_dropRule_25 (call : zCall) (K : zK) (this x2 x3 : Int) (c : zC) : zseg zc_X8_dropRule zk_X8_dropRule call K 1000 25 [(2, this), (3, 0), (2, x2), (0, x3)] [] c =
  if c this (-1) = 9 then
    if (zadd x3 1) < (c this 4) then
      if c this (-1) = 9 then
        if c this (-1) = 9 then
          if c (c this 2) (-1) = 116 ∧ (0 : Int) ≤ (zadd x3 1) ∧ (zadd x3 1) < c (c this 2) (-2) then
            if c (c this 2) (-1) = 116 ∧ (0 : Int) ≤ x3 ∧ x3 < c (c this 2) (-2) then
              if c (c (c this 2) (zadd x3 1)) (-1) = 7 then
                K 25 [(2, this), (3, 0), (2, x2), (0, zw (x3 + 1))] [] (zup c (c this 2) x3 (c (c this 2) (zadd x3 1)))
              else none
            else none
          else none
        else none
      else none
    else
      if c this (-1) = 9 then
        if c this (-1) = 9 then
          if (zup c this 4 (zsub (c this 4) 1)) this (-1) = 9 then
            if (zup c this 4 (zsub (c this 4) 1)) this (-1) = 9 then
              if (zup c this 4 (zsub (c this 4) 1)) ((zup c this 4 (zsub (c this 4) 1)) this 2) (-1) = 116 ∧ (0 : Int) ≤ ((zup c this 4 (zsub (c this 4) 1)) this 4) ∧ ((zup c this 4 (zsub (c this 4) 1)) this 4) < (zup c this 4 (zsub (c this 4) 1)) ((zup c this 4 (zsub (c this 4) 1)) this 2) (-2) then
                if (zup c this 4 (zsub (c this 4) 1)) x2 (-1) = 7 then
                  some (0, zup (zup c this 4 (zsub (c this 4) 1)) ((zup c this 4 (zsub (c this 4) 1)) this 2) ((zup c this 4 (zsub (c this 4) 1)) this 4) x2)
                else none
              else none
            else none
          else none
        else none
      else none
  else none := by rfl
theorem ze_X8_dropRule_25 (d F : Nat) (this x2 x3 : Int) (c : zC) : zex zc_X8_dropRule zk_X8_dropRule (zrun zTab d) (F + 1) 25 [(2, this), (3, 0), (2, x2), (0, x3)] [] c =
  if c this (-1) = 9 then
    if (zadd x3 1) < (c this 4) then
      if c this (-1) = 9 then
        if c this (-1) = 9 then
          if c (c this 2) (-1) = 116 ∧ (0 : Int) ≤ (zadd x3 1) ∧ (zadd x3 1) < c (c this 2) (-2) then
            if c (c this 2) (-1) = 116 ∧ (0 : Int) ≤ x3 ∧ x3 < c (c this 2) (-2) then
              if c (c (c this 2) (zadd x3 1)) (-1) = 7 then
                zex zc_X8_dropRule zk_X8_dropRule (zrun zTab d) F 25 [(2, this), (3, 0), (2, x2), (0, zw (x3 + 1))] [] (zup c (c this 2) x3 (c (c this 2) (zadd x3 1)))
              else none
            else none
          else none
        else none
      else none
    else
      if c this (-1) = 9 then
        if c this (-1) = 9 then
          if (zup c this 4 (zsub (c this 4) 1)) this (-1) = 9 then
            if (zup c this 4 (zsub (c this 4) 1)) this (-1) = 9 then
              if (zup c this 4 (zsub (c this 4) 1)) ((zup c this 4 (zsub (c this 4) 1)) this 2) (-1) = 116 ∧ (0 : Int) ≤ ((zup c this 4 (zsub (c this 4) 1)) this 4) ∧ ((zup c this 4 (zsub (c this 4) 1)) this 4) < (zup c this 4 (zsub (c this 4) 1)) ((zup c this 4 (zsub (c this 4) 1)) this 2) (-2) then
                if (zup c this 4 (zsub (c this 4) 1)) x2 (-1) = 7 then
                  some (0, zup (zup c this 4 (zsub (c this 4) 1)) ((zup c this 4 (zsub (c this 4) 1)) this 2) ((zup c this 4 (zsub (c this 4) 1)) this 4) x2)
                else none
              else none
            else none
          else none
        else none
      else none
  else none := zf_X8_dropRule_25 _ _ this x2 x3 c
set_option maxRecDepth 100000 in
theorem zf_X8_copyFrom (call : zCall) (K : zK) (this x1 : Int) (c : zC) : zseg zc_X8_copyFrom zk_X8_copyFrom call K 1000 0 [(2, this), (2, x1), (3, 0)] [] c =
  if x1 = 0 then
    some (0, c)
  else
    K 7 [(2, this), (2, x1), (0, 0)] [] c := by rfl
theorem ze_X8_copyFrom (d : Nat) (this x1 : Int) (c : zC) : zrun zTab (d + 1) 75 [this, x1] c =
  if x1 = 0 then
    some (0, c)
  else
    zex zc_X8_copyFrom zk_X8_copyFrom (zrun zTab d) 19999 7 [(2, this), (2, x1), (0, 0)] [] c := (zrun_s zt75).trans (zf_X8_copyFrom _ _ this x1 c)
set_option maxRecDepth 100000 in
theorem zf_X8_copyFrom_7 (call : zCall) (K : zK) (this x1 x2 : Int) (c : zC) : zseg zc_X8_copyFrom zk_X8_copyFrom call K 1000 7 [(2, this), (2, x1), (0, x2)] [] c =
  if c this (-1) = 9 then
    if c (c this 0) (-1) = 114 then
      if x2 < (c (c this 0) (-2)) then
        if c this (-1) = 9 then
          if c (c this 0) (-1) = 114 ∧ (0 : Int) ≤ x2 ∧ x2 < c (c this 0) (-2) then
            if (c (c this 0) x2) = 0 then
              K 7 [(2, this), (2, x1), (0, zw (x2 + 1))] [] c
            else
              if c this (-1) = 9 then
                if c (c this 0) (-1) = 114 ∧ (0 : Int) ≤ x2 ∧ x2 < c (c this 0) (-2) then
                  if c x1 (-1) = 9 then
                    zbnd (call 67 [x1, x2] c) (fun v1 c2 =>
                      if c2 (c (c this 0) x2) (-1) = 5 then
                        zbnd (call 52 [c (c this 0) x2, v1] c2) (fun _ c4 =>
                          K 7 [(2, this), (2, x1), (0, zw (x2 + 1))] [] c4)
                      else none)
                  else none
                else none
              else none
          else none
        else none
      else
        K 47 [(2, this), (2, x1), (0, 0)] [] c
    else none
  else none := by rfl
theorem ze_X8_copyFrom_7 (d F : Nat) (this x1 x2 : Int) (c : zC) : zex zc_X8_copyFrom zk_X8_copyFrom (zrun zTab d) (F + 1) 7 [(2, this), (2, x1), (0, x2)] [] c =
  if c this (-1) = 9 then
    if c (c this 0) (-1) = 114 then
      if x2 < (c (c this 0) (-2)) then
        if c this (-1) = 9 then
          if c (c this 0) (-1) = 114 ∧ (0 : Int) ≤ x2 ∧ x2 < c (c this 0) (-2) then
            if (c (c this 0) x2) = 0 then
              zex zc_X8_copyFrom zk_X8_copyFrom (zrun zTab d) F 7 [(2, this), (2, x1), (0, zw (x2 + 1))] [] c
            else
              if c this (-1) = 9 then
                if c (c this 0) (-1) = 114 ∧ (0 : Int) ≤ x2 ∧ x2 < c (c this 0) (-2) then
                  if c x1 (-1) = 9 then
                    zbnd (zrun zTab d 67 [x1, x2] c) (fun v1 c2 =>
                      if c2 (c (c this 0) x2) (-1) = 5 then
                        zbnd (zrun zTab d 52 [c (c this 0) x2, v1] c2) (fun _ c4 =>
                          zex zc_X8_copyFrom zk_X8_copyFrom (zrun zTab d) F 7 [(2, this), (2, x1), (0, zw (x2 + 1))] [] c4)
                      else none)
                  else none
                else none
              else none
          else none
        else none
      else
        zex zc_X8_copyFrom zk_X8_copyFrom (zrun zTab d) F 47 [(2, this), (2, x1), (0, 0)] [] c
    else none
  else none := zf_X8_copyFrom_7 _ _ this x1 x2 c
set_option maxRecDepth 100000 in
theorem zf_X8_copyFrom_47 (call : zCall) (K : zK) (this x1 x2 : Int) (c : zC) : zseg zc_X8_copyFrom zk_X8_copyFrom call K 1000 47 [(2, this), (2, x1), (0, x2)] [] c =
  if c this (-1) = 9 then
    if c (c this 1) (-1) = 117 then
      if x2 < (c (c this 1) (-2)) then
        if c this (-1) = 9 then
          if c (c this 1) (-1) = 117 ∧ (0 : Int) ≤ x2 ∧ x2 < c (c this 1) (-2) then
            if (c (c this 1) x2) = 0 then
              K 47 [(2, this), (2, x1), (0, zw (x2 + 1))] [] c
            else
              if c this (-1) = 9 then
                if c (c this 1) (-1) = 117 ∧ (0 : Int) ≤ x2 ∧ x2 < c (c this 1) (-2) then
                  if c x1 (-1) = 9 then
                    zbnd (call 68 [x1, x2] c) (fun v1 c2 =>
                      if c2 (c (c this 1) x2) (-1) = 8 then
                        zbnd (call 65 [c (c this 1) x2, v1] c2) (fun _ c4 =>
                          K 47 [(2, this), (2, x1), (0, zw (x2 + 1))] [] c4)
                      else none)
                  else none
                else none
              else none
          else none
        else none
      else
        K 87 [(2, this), (2, x1), (0, 0)] [] c
    else none
  else none := by rfl
theorem ze_X8_copyFrom_47 (d F : Nat) (this x1 x2 : Int) (c : zC) : zex zc_X8_copyFrom zk_X8_copyFrom (zrun zTab d) (F + 1) 47 [(2, this), (2, x1), (0, x2)] [] c =
  if c this (-1) = 9 then
    if c (c this 1) (-1) = 117 then
      if x2 < (c (c this 1) (-2)) then
        if c this (-1) = 9 then
          if c (c this 1) (-1) = 117 ∧ (0 : Int) ≤ x2 ∧ x2 < c (c this 1) (-2) then
            if (c (c this 1) x2) = 0 then
              zex zc_X8_copyFrom zk_X8_copyFrom (zrun zTab d) F 47 [(2, this), (2, x1), (0, zw (x2 + 1))] [] c
            else
              if c this (-1) = 9 then
                if c (c this 1) (-1) = 117 ∧ (0 : Int) ≤ x2 ∧ x2 < c (c this 1) (-2) then
                  if c x1 (-1) = 9 then
                    zbnd (zrun zTab d 68 [x1, x2] c) (fun v1 c2 =>
                      if c2 (c (c this 1) x2) (-1) = 8 then
                        zbnd (zrun zTab d 65 [c (c this 1) x2, v1] c2) (fun _ c4 =>
                          zex zc_X8_copyFrom zk_X8_copyFrom (zrun zTab d) F 47 [(2, this), (2, x1), (0, zw (x2 + 1))] [] c4)
                      else none)
                  else none
                else none
              else none
          else none
        else none
      else
        zex zc_X8_copyFrom zk_X8_copyFrom (zrun zTab d) F 87 [(2, this), (2, x1), (0, 0)] [] c
    else none
  else none := zf_X8_copyFrom_47 _ _ this x1 x2 c
set_option maxRecDepth 100000 in
theorem zf_X8_copyFrom_87 (call : zCall) (K : zK) (this x1 x2 : Int) (c : zC) : zseg zc_X8_copyFrom zk_X8_copyFrom call K 1000 87 [(2, this), (2, x1), (0, x2)] [] c =
  if c this (-1) = 9 then
    if c (c this 2) (-1) = 116 then
      if x2 < (c (c this 2) (-2)) then
        if c this (-1) = 9 then
          if c (c this 2) (-1) = 116 ∧ (0 : Int) ≤ x2 ∧ x2 < c (c this 2) (-2) then
            if (c (c this 2) x2) = 0 then
              K 87 [(2, this), (2, x1), (0, zw (x2 + 1))] [] c
            else
              if c this (-1) = 9 then
                if c (c this 2) (-1) = 116 ∧ (0 : Int) ≤ x2 ∧ x2 < c (c this 2) (-2) then
                  if c x1 (-1) = 9 then
                    zbnd (call 69 [x1, x2] c) (fun v1 c2 =>
                      if c2 (c (c this 2) x2) (-1) = 7 then
                        zbnd (call 61 [c (c this 2) x2, v1] c2) (fun _ c4 =>
                          K 87 [(2, this), (2, x1), (0, zw (x2 + 1))] [] c4)
                      else none)
                  else none
                else none
              else none
          else none
        else none
      else
        if c x1 (-1) = 9 then
          if c this (-1) = 9 then
            if (zup c this 3 (c x1 3)) x1 (-1) = 9 then
              if (zup c this 3 (c x1 3)) this (-1) = 9 then
                if (zup (zup c this 3 (c x1 3)) this 4 ((zup c this 3 (c x1 3)) x1 4)) x1 (-1) = 9 then
                  if (zup (zup c this 3 (c x1 3)) this 4 ((zup c this 3 (c x1 3)) x1 4)) this (-1) = 9 then
                    if (zup (zup (zup c this 3 (c x1 3)) this 4 ((zup c this 3 (c x1 3)) x1 4)) this 5 ((zup (zup c this 3 (c x1 3)) this 4 ((zup c this 3 (c x1 3)) x1 4)) x1 5)) x1 (-1) = 9 then
                      if (zup (zup (zup c this 3 (c x1 3)) this 4 ((zup c this 3 (c x1 3)) x1 4)) this 5 ((zup (zup c this 3 (c x1 3)) this 4 ((zup c this 3 (c x1 3)) x1 4)) x1 5)) this (-1) = 9 then
                        some (0, zup (zup (zup (zup c this 3 (c x1 3)) this 4 ((zup c this 3 (c x1 3)) x1 4)) this 5 ((zup (zup c this 3 (c x1 3)) this 4 ((zup c this 3 (c x1 3)) x1 4)) x1 5)) this 6 ((zup (zup (zup c this 3 (c x1 3)) this 4 ((zup c this 3 (c x1 3)) x1 4)) this 5 ((zup (zup c this 3 (c x1 3)) this 4 ((zup c this 3 (c x1 3)) x1 4)) x1 5)) x1 6))
                      else none
                    else none
                  else none
                else none
              else none
            else none
          else none
        else none
    else none
  else none := by rfl
theorem ze_X8_copyFrom_87 (d F : Nat) (this x1 x2 : Int) (c : zC) : zex zc_X8_copyFrom zk_X8_copyFrom (zrun zTab d) (F + 1) 87 [(2, this), (2, x1), (0, x2)] [] c =
  if c this (-1) = 9 then
    if c (c this 2) (-1) = 116 then
      if x2 < (c (c this 2) (-2)) then
        if c this (-1) = 9 then
          if c (c this 2) (-1) = 116 ∧ (0 : Int) ≤ x2 ∧ x2 < c (c this 2) (-2) then
            if (c (c this 2) x2) = 0 then
              zex zc_X8_copyFrom zk_X8_copyFrom (zrun zTab d) F 87 [(2, this), (2, x1), (0, zw (x2 + 1))] [] c
            else
              if c this (-1) = 9 then
                if c (c this 2) (-1) = 116 ∧ (0 : Int) ≤ x2 ∧ x2 < c (c this 2) (-2) then
                  if c x1 (-1) = 9 then
                    zbnd (zrun zTab d 69 [x1, x2] c) (fun v1 c2 =>
                      if c2 (c (c this 2) x2) (-1) = 7 then
                        zbnd (zrun zTab d 61 [c (c this 2) x2, v1] c2) (fun _ c4 =>
                          zex zc_X8_copyFrom zk_X8_copyFrom (zrun zTab d) F 87 [(2, this), (2, x1), (0, zw (x2 + 1))] [] c4)
                      else none)
                  else none
                else none
              else none
          else none
        else none
      else
        if c x1 (-1) = 9 then
          if c this (-1) = 9 then
            if (zup c this 3 (c x1 3)) x1 (-1) = 9 then
              if (zup c this 3 (c x1 3)) this (-1) = 9 then
                if (zup (zup c this 3 (c x1 3)) this 4 ((zup c this 3 (c x1 3)) x1 4)) x1 (-1) = 9 then
                  if (zup (zup c this 3 (c x1 3)) this 4 ((zup c this 3 (c x1 3)) x1 4)) this (-1) = 9 then
                    if (zup (zup (zup c this 3 (c x1 3)) this 4 ((zup c this 3 (c x1 3)) x1 4)) this 5 ((zup (zup c this 3 (c x1 3)) this 4 ((zup c this 3 (c x1 3)) x1 4)) x1 5)) x1 (-1) = 9 then
                      if (zup (zup (zup c this 3 (c x1 3)) this 4 ((zup c this 3 (c x1 3)) x1 4)) this 5 ((zup (zup c this 3 (c x1 3)) this 4 ((zup c this 3 (c x1 3)) x1 4)) x1 5)) this (-1) = 9 then
                        some (0, zup (zup (zup (zup c this 3 (c x1 3)) this 4 ((zup c this 3 (c x1 3)) x1 4)) this 5 ((zup (zup c this 3 (c x1 3)) this 4 ((zup c this 3 (c x1 3)) x1 4)) x1 5)) this 6 ((zup (zup (zup c this 3 (c x1 3)) this 4 ((zup c this 3 (c x1 3)) x1 4)) this 5 ((zup (zup c this 3 (c x1 3)) this 4 ((zup c this 3 (c x1 3)) x1 4)) x1 5)) x1 6))
                      else none
                    else none
                  else none
                else none
              else none
            else none
          else none
        else none
    else none
  else none := zf_X8_copyFrom_87 _ _ this x1 x2 c
