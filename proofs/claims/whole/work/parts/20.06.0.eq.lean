set_option maxRecDepth 100000 in
theorem zf_X6_init (call : zCall) (K : zK) (this : Int) (c : zC) : zseg zc_X6_init zk_X6_init call K 1000 0 [(2, this)] [] c =
  if this = 0 then none else
    some (0, c) := by rfl
theorem ze_X6_init (d : Nat) (this : Int) (c : zC) : zrun zTab (d + 1) 58 [this] c =
  if this = 0 then none else
    some (0, c) := (zrun_s zt58).trans (zf_X6_init _ _ this c)
set_option maxRecDepth 100000 in
theorem zf_X6_become (call : zCall) (K : zK) (this x1 x3 : Int) (c : zC) : zseg zc_X6_become zk_X6_become call K 1000 0 [(2, this), (1, x1), (3, 0), (1, x3), (3, 0)] [] c =
  if c this (-1) = 7 then
    if (zup c this 0 x1) this (-1) = 7 then
      zbnd (call 96 [x1] (zup (zup c this 0 x1) this 1 x3)) (fun v1 c2 =>
        if c2 this (-1) = 7 then
          zbnd (call 96 [x3] (zup c2 this 2 (zmul 5 v1))) (fun v3 c4 =>
            if c4 this (-1) = 7 then
              some (0, zup c4 this 3 (zmul 5 v3))
            else none)
        else none)
    else none
  else none := by rfl
theorem ze_X6_become (d : Nat) (this x1 x3 : Int) (c : zC) : zrun zTab (d + 1) 59 [this, x1, x3] c =
  if c this (-1) = 7 then
    if (zup c this 0 x1) this (-1) = 7 then
      zbnd (zrun zTab d 96 [x1] (zup (zup c this 0 x1) this 1 x3)) (fun v1 c2 =>
        if c2 this (-1) = 7 then
          zbnd (zrun zTab d 96 [x3] (zup c2 this 2 (zmul 5 v1))) (fun v3 c4 =>
            if c4 this (-1) = 7 then
              some (0, zup c4 this 3 (zmul 5 v3))
            else none)
        else none)
    else none
  else none := (zrun_s zt59).trans (zf_X6_become _ _ this x1 x3 c)
set_option maxRecDepth 100000 in
theorem zf_X6_applyTo (call : zCall) (K : zK) (this x1 : Int) (c : zC) : zseg zc_X6_applyTo zk_X6_applyTo call K 1000 0 [(2, this), (1, x1), (3, 0), (3, 0), (3, 0), (3, 0), (3, 0), (3, 0), (3, 0), (3, 0)] [] c =
  if c this (-1) = 7 then
    if c this (-1) = 7 then
      if c this (-1) = 7 then
        if (if x1 < zlor (zlshl (zlushr x1 (c this 2)) (c this 2)) (c this 0) then 1 else if zlor (zlshl (zlushr x1 (c this 2)) (c this 2)) (c this 0) = x1 then 0 else -1) = 0 then
          K 28 [(2, this), (3, 0), (3, 0), (1, zlushr x1 (c this 2)), (3, 0), (3, 0), (3, 0), (3, 0), (3, 0), (3, 0)] [(0, 1)] c
        else
          K 28 [(2, this), (3, 0), (3, 0), (1, zlushr x1 (c this 2)), (3, 0), (3, 0), (3, 0), (3, 0), (3, 0), (3, 0)] [(0, 0)] c
      else none
    else none
  else none := by rfl
theorem ze_X6_applyTo (d : Nat) (this x1 : Int) (c : zC) : zrun zTab (d + 1) 60 [this, x1] c =
  if c this (-1) = 7 then
    if c this (-1) = 7 then
      if c this (-1) = 7 then
        if (if x1 < zlor (zlshl (zlushr x1 (c this 2)) (c this 2)) (c this 0) then 1 else if zlor (zlshl (zlushr x1 (c this 2)) (c this 2)) (c this 0) = x1 then 0 else -1) = 0 then
          zex zc_X6_applyTo zk_X6_applyTo (zrun zTab d) 19999 28 [(2, this), (3, 0), (3, 0), (1, zlushr x1 (c this 2)), (3, 0), (3, 0), (3, 0), (3, 0), (3, 0), (3, 0)] [(0, 1)] c
        else
          zex zc_X6_applyTo zk_X6_applyTo (zrun zTab d) 19999 28 [(2, this), (3, 0), (3, 0), (1, zlushr x1 (c this 2)), (3, 0), (3, 0), (3, 0), (3, 0), (3, 0), (3, 0)] [(0, 0)] c
      else none
    else none
  else none := (zrun_s zt60).trans (zf_X6_applyTo _ _ this x1 c)
set_option maxRecDepth 100000 in
theorem zf_X6_applyTo_28 (call : zCall) (K : zK) (this x3 s0 : Int) (c : zC) : zseg zc_X6_applyTo zk_X6_applyTo call K 1000 28 [(2, this), (3, 0), (3, 0), (1, x3), (3, 0), (3, 0), (3, 0), (3, 0), (3, 0), (3, 0)] [(0, s0)] c =
  if c this (-1) = 7 then
    if c this (-1) = 7 then
      if (if 0 < zlushr x3 5 then 1 else if zlushr x3 5 = 0 then 0 else -1) = 0 then
        if (if 0 < zlushr (zlor (zlshl x3 (c this 3)) (c this 1)) 50 then 1 else if zlushr (zlor (zlshl x3 (c this 3)) (c this 1)) 50 = 0 then 0 else -1) = 0 then
          if s0 = 0 then
            some (0, c)
          else
            some (0, c)
        else
          if s0 = 0 then
            some (0, c)
          else
            some (0, c)
      else
        if (if 0 < zlushr (zlor (zlshl x3 (c this 3)) (c this 1)) 50 then 1 else if zlushr (zlor (zlshl x3 (c this 3)) (c this 1)) 50 = 0 then 0 else -1) = 0 then
          if s0 = 0 then
            some (0, c)
          else
            some (zlor (zlshl x3 (c this 3)) (c this 1), c)
        else
          if s0 = 0 then
            some (0, c)
          else
            some (0, c)
    else none
  else none := by rfl
theorem ze_X6_applyTo_28 (d F : Nat) (this x3 s0 : Int) (c : zC) : zex zc_X6_applyTo zk_X6_applyTo (zrun zTab d) (F + 1) 28 [(2, this), (3, 0), (3, 0), (1, x3), (3, 0), (3, 0), (3, 0), (3, 0), (3, 0), (3, 0)] [(0, s0)] c =
  if c this (-1) = 7 then
    if c this (-1) = 7 then
      if (if 0 < zlushr x3 5 then 1 else if zlushr x3 5 = 0 then 0 else -1) = 0 then
        if (if 0 < zlushr (zlor (zlshl x3 (c this 3)) (c this 1)) 50 then 1 else if zlushr (zlor (zlshl x3 (c this 3)) (c this 1)) 50 = 0 then 0 else -1) = 0 then
          if s0 = 0 then
            some (0, c)
          else
            some (0, c)
        else
          if s0 = 0 then
            some (0, c)
          else
            some (0, c)
      else
        if (if 0 < zlushr (zlor (zlshl x3 (c this 3)) (c this 1)) 50 then 1 else if zlushr (zlor (zlshl x3 (c this 3)) (c this 1)) 50 = 0 then 0 else -1) = 0 then
          if s0 = 0 then
            some (0, c)
          else
            some (zlor (zlshl x3 (c this 3)) (c this 1), c)
        else
          if s0 = 0 then
            some (0, c)
          else
            some (0, c)
    else none
  else none := zf_X6_applyTo_28 _ _ this x3 s0 c
set_option maxRecDepth 100000 in
theorem zf_X6_copyFrom (call : zCall) (K : zK) (this x1 : Int) (c : zC) : zseg zc_X6_copyFrom zk_X6_copyFrom call K 1000 0 [(2, this), (2, x1)] [] c =
  if x1 = 0 then
    some (0, c)
  else
    if c x1 (-1) = 7 then
      if c this (-1) = 7 then
        if (zup c this 0 (c x1 0)) x1 (-1) = 7 then
          if (zup c this 0 (c x1 0)) this (-1) = 7 then
            if (zup (zup c this 0 (c x1 0)) this 1 ((zup c this 0 (c x1 0)) x1 1)) x1 (-1) = 7 then
              if (zup (zup c this 0 (c x1 0)) this 1 ((zup c this 0 (c x1 0)) x1 1)) this (-1) = 7 then
                if (zup (zup (zup c this 0 (c x1 0)) this 1 ((zup c this 0 (c x1 0)) x1 1)) this 2 ((zup (zup c this 0 (c x1 0)) this 1 ((zup c this 0 (c x1 0)) x1 1)) x1 2)) x1 (-1) = 7 then
                  if (zup (zup (zup c this 0 (c x1 0)) this 1 ((zup c this 0 (c x1 0)) x1 1)) this 2 ((zup (zup c this 0 (c x1 0)) this 1 ((zup c this 0 (c x1 0)) x1 1)) x1 2)) this (-1) = 7 then
                    some (0, zup (zup (zup (zup c this 0 (c x1 0)) this 1 ((zup c this 0 (c x1 0)) x1 1)) this 2 ((zup (zup c this 0 (c x1 0)) this 1 ((zup c this 0 (c x1 0)) x1 1)) x1 2)) this 3 ((zup (zup (zup c this 0 (c x1 0)) this 1 ((zup c this 0 (c x1 0)) x1 1)) this 2 ((zup (zup c this 0 (c x1 0)) this 1 ((zup c this 0 (c x1 0)) x1 1)) x1 2)) x1 3))
                  else none
                else none
              else none
            else none
          else none
        else none
      else none
    else none := by rfl
theorem ze_X6_copyFrom (d : Nat) (this x1 : Int) (c : zC) : zrun zTab (d + 1) 61 [this, x1] c =
  if x1 = 0 then
    some (0, c)
  else
    if c x1 (-1) = 7 then
      if c this (-1) = 7 then
        if (zup c this 0 (c x1 0)) x1 (-1) = 7 then
          if (zup c this 0 (c x1 0)) this (-1) = 7 then
            if (zup (zup c this 0 (c x1 0)) this 1 ((zup c this 0 (c x1 0)) x1 1)) x1 (-1) = 7 then
              if (zup (zup c this 0 (c x1 0)) this 1 ((zup c this 0 (c x1 0)) x1 1)) this (-1) = 7 then
                if (zup (zup (zup c this 0 (c x1 0)) this 1 ((zup c this 0 (c x1 0)) x1 1)) this 2 ((zup (zup c this 0 (c x1 0)) this 1 ((zup c this 0 (c x1 0)) x1 1)) x1 2)) x1 (-1) = 7 then
                  if (zup (zup (zup c this 0 (c x1 0)) this 1 ((zup c this 0 (c x1 0)) x1 1)) this 2 ((zup (zup c this 0 (c x1 0)) this 1 ((zup c this 0 (c x1 0)) x1 1)) x1 2)) this (-1) = 7 then
                    some (0, zup (zup (zup (zup c this 0 (c x1 0)) this 1 ((zup c this 0 (c x1 0)) x1 1)) this 2 ((zup (zup c this 0 (c x1 0)) this 1 ((zup c this 0 (c x1 0)) x1 1)) x1 2)) this 3 ((zup (zup (zup c this 0 (c x1 0)) this 1 ((zup c this 0 (c x1 0)) x1 1)) this 2 ((zup (zup c this 0 (c x1 0)) this 1 ((zup c this 0 (c x1 0)) x1 1)) x1 2)) x1 3))
                  else none
                else none
              else none
            else none
          else none
        else none
      else none
    else none := (zrun_s zt61).trans (zf_X6_copyFrom _ _ this x1 c)
