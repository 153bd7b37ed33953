set_option maxRecDepth 100000 in
theorem zf_X5_init (call : zCall) (K : zK) (this : Int) (c : zC) : zseg zc_X5_init zk_X5_init call K 1000 0 [(2, this)] [] c =
  if this = 0 then none else
    some (0, c) := by rfl
theorem ze_X5_init (d : Nat) (this : Int) (c : zC) : zrun zTab (d + 1) 53 [this] c =
  if this = 0 then none else
    some (0, c) := (zrun_s zt53).trans (zf_X5_init _ _ this c)
set_option maxRecDepth 100000 in
theorem zf_X5_start (call : zCall) (K : zK) (this : Int) (c : zC) : zseg zc_X5_start zk_X5_start call K 1000 0 [(2, this)] [] c =
  if c this (-1) = 6 then
    if (zup c this 0 0) this (-1) = 6 then
      if (zup (zup c this 0 0) this 1 0) this (-1) = 6 then
        if (zup (zup (zup c this 0 0) this 1 0) this 2 (-5)) this (-1) = 6 then
          some (0, zup (zup (zup (zup c this 0 0) this 1 0) this 2 (-5)) this 3 0)
        else none
      else none
    else none
  else none := by rfl
theorem ze_X5_start (d : Nat) (this : Int) (c : zC) : zrun zTab (d + 1) 54 [this] c =
  if c this (-1) = 6 then
    if (zup c this 0 0) this (-1) = 6 then
      if (zup (zup c this 0 0) this 1 0) this (-1) = 6 then
        if (zup (zup (zup c this 0 0) this 1 0) this 2 (-5)) this (-1) = 6 then
          some (0, zup (zup (zup (zup c this 0 0) this 1 0) this 2 (-5)) this 3 0)
        else none
      else none
    else none
  else none := (zrun_s zt54).trans (zf_X5_start _ _ this c)
set_option maxRecDepth 100000 in
theorem zf_X5_enter (call : zCall) (K : zK) (this x1 : Int) (c : zC) : zseg zc_X5_enter zk_X5_enter call K 1000 0 [(2, this), (0, x1)] [] c =
  if c this (-1) = 6 then
    if x1 = (c this 0) then
      some (0, c)
    else
      if c this (-1) = 6 then
        if (zup c this 0 x1) this (-1) = 6 then
          some (0, zup (zup c this 0 x1) this 1 0)
        else none
      else none
  else none := by rfl
theorem ze_X5_enter (d : Nat) (this x1 : Int) (c : zC) : zrun zTab (d + 1) 55 [this, x1] c =
  if c this (-1) = 6 then
    if x1 = (c this 0) then
      some (0, c)
    else
      if c this (-1) = 6 then
        if (zup c this 0 x1) this (-1) = 6 then
          some (0, zup (zup c this 0 x1) this 1 0)
        else none
      else none
  else none := (zrun_s zt55).trans (zf_X5_enter _ _ this x1 c)
set_option maxRecDepth 100000 in
theorem zf_X5_reasonFor (call : zCall) (K : zK) (this x1 x2 x3 x4 : Int) (c : zC) : zseg zc_X5_reasonFor zk_X5_reasonFor call K 1000 0 [(2, this), (0, x1), (0, x2), (0, x3), (0, x4)] [] c =
  if c this (-1) = 6 then
    if (ziand (zishr (c this 1) x2) 1) = 0 then
      if c this (-1) = 6 then
        if (c this 2) = (-5) then
          if c this (-1) = 6 then
            if (c this 3) < x4 then
              some (0, c)
            else
              some (6, c)
          else none
        else
          if c this (-1) = 6 then
            if (zsub (zsub x1 (c this 2)) 1) < x3 then
              some (5, c)
            else
              if c this (-1) = 6 then
                if (c this 3) < x4 then
                  some (0, c)
                else
                  some (6, c)
              else none
          else none
      else none
    else
      some (4, c)
  else none := by rfl
theorem ze_X5_reasonFor (d : Nat) (this x1 x2 x3 x4 : Int) (c : zC) : zrun zTab (d + 1) 56 [this, x1, x2, x3, x4] c =
  if c this (-1) = 6 then
    if (ziand (zishr (c this 1) x2) 1) = 0 then
      if c this (-1) = 6 then
        if (c this 2) = (-5) then
          if c this (-1) = 6 then
            if (c this 3) < x4 then
              some (0, c)
            else
              some (6, c)
          else none
        else
          if c this (-1) = 6 then
            if (zsub (zsub x1 (c this 2)) 1) < x3 then
              some (5, c)
            else
              if c this (-1) = 6 then
                if (c this 3) < x4 then
                  some (0, c)
                else
                  some (6, c)
              else none
          else none
      else none
    else
      some (4, c)
  else none := (zrun_s zt56).trans (zf_X5_reasonFor _ _ this x1 x2 x3 x4 c)
set_option maxRecDepth 100000 in
theorem zf_X5_add (call : zCall) (K : zK) (this x1 x2 : Int) (c : zC) : zseg zc_X5_add zk_X5_add call K 1000 0 [(2, this), (0, x1), (0, x2)] [] c =
  if c this (-1) = 6 then
    if c this (-1) = 6 then
      if (zup c this 1 (zior (c this 1) (zishl 1 x2))) this (-1) = 6 then
        if (zup (zup c this 1 (zior (c this 1) (zishl 1 x2))) this 2 x1) this (-1) = 6 then
          if (zup (zup c this 1 (zior (c this 1) (zishl 1 x2))) this 2 x1) this (-1) = 6 then
            some (0, zup (zup (zup c this 1 (zior (c this 1) (zishl 1 x2))) this 2 x1) this 3 (zadd ((zup (zup c this 1 (zior (c this 1) (zishl 1 x2))) this 2 x1) this 3) 1))
          else none
        else none
      else none
    else none
  else none := by rfl
theorem ze_X5_add (d : Nat) (this x1 x2 : Int) (c : zC) : zrun zTab (d + 1) 57 [this, x1, x2] c =
  if c this (-1) = 6 then
    if c this (-1) = 6 then
      if (zup c this 1 (zior (c this 1) (zishl 1 x2))) this (-1) = 6 then
        if (zup (zup c this 1 (zior (c this 1) (zishl 1 x2))) this 2 x1) this (-1) = 6 then
          if (zup (zup c this 1 (zior (c this 1) (zishl 1 x2))) this 2 x1) this (-1) = 6 then
            some (0, zup (zup (zup c this 1 (zior (c this 1) (zishl 1 x2))) this 2 x1) this 3 (zadd ((zup (zup c this 1 (zior (c this 1) (zishl 1 x2))) this 2 x1) this 3) 1))
          else none
        else none
      else none
    else none
  else none := (zrun_s zt57).trans (zf_X5_add _ _ this x1 x2 c)
