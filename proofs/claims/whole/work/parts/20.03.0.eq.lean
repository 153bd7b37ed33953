set_option maxRecDepth 100000 in
theorem zf_X3_init (call : zCall) (K : zK) (this : Int) (c : zC) : zseg zc_X3_init zk_X3_init call K 1000 0 [(2, this), (3, 0)] [] c =
  if this = 0 then none else
    if (znew c 110 20) this (-1) = 4 then
      K 13 [(2, this), (3, 0)] [] (zup (znew c 110 20) this 0 (c 0 0))
    else none := by rfl
theorem ze_X3_init (d : Nat) (this : Int) (c : zC) : zrun zTab (d + 1) 14 [this] c =
  if this = 0 then none else
    if (znew c 110 20) this (-1) = 4 then
      zex zc_X3_init zk_X3_init (zrun zTab d) 19999 13 [(2, this), (3, 0)] [] (zup (znew c 110 20) this 0 (c 0 0))
    else none := (zrun_s zt14).trans (zf_X3_init _ _ this c)
set_option maxRecDepth 100000 in
theorem zf_X3_init_13 (call : zCall) (K : zK) (this : Int) (c : zC) : zseg zc_X3_init zk_X3_init call K 1000 13 [(2, this), (3, 0)] [] c =
  if (znew c 100 20) this (-1) = 4 then
    K 21 [(2, this), (3, 0)] [] (zup (znew c 100 20) this 1 (c 0 0))
  else none := by rfl
theorem ze_X3_init_13 (d F : Nat) (this : Int) (c : zC) : zex zc_X3_init zk_X3_init (zrun zTab d) (F + 1) 13 [(2, this), (3, 0)] [] c =
  if (znew c 100 20) this (-1) = 4 then
    zex zc_X3_init zk_X3_init (zrun zTab d) F 21 [(2, this), (3, 0)] [] (zup (znew c 100 20) this 1 (c 0 0))
  else none := zf_X3_init_13 _ _ this c
set_option maxRecDepth 100000 in
theorem zf_X3_init_21 (call : zCall) (K : zK) (this : Int) (c : zC) : zseg zc_X3_init zk_X3_init call K 1000 21 [(2, this), (3, 0)] [] c =
  if (znew c 101 20) this (-1) = 4 then
    K 29 [(2, this), (3, 0)] [] (zup (znew c 101 20) this 2 (c 0 0))
  else none := by rfl
theorem ze_X3_init_21 (d F : Nat) (this : Int) (c : zC) : zex zc_X3_init zk_X3_init (zrun zTab d) (F + 1) 21 [(2, this), (3, 0)] [] c =
  if (znew c 101 20) this (-1) = 4 then
    zex zc_X3_init zk_X3_init (zrun zTab d) F 29 [(2, this), (3, 0)] [] (zup (znew c 101 20) this 2 (c 0 0))
  else none := zf_X3_init_21 _ _ this c
set_option maxRecDepth 100000 in
theorem zf_X3_init_29 (call : zCall) (K : zK) (this : Int) (c : zC) : zseg zc_X3_init zk_X3_init call K 1000 29 [(2, this), (3, 0)] [] c =
  if (znew c 100 20) this (-1) = 4 then
    K 37 [(2, this), (3, 0)] [] (zup (znew c 100 20) this 3 (c 0 0))
  else none := by rfl
theorem ze_X3_init_29 (d F : Nat) (this : Int) (c : zC) : zex zc_X3_init zk_X3_init (zrun zTab d) (F + 1) 29 [(2, this), (3, 0)] [] c =
  if (znew c 100 20) this (-1) = 4 then
    zex zc_X3_init zk_X3_init (zrun zTab d) F 37 [(2, this), (3, 0)] [] (zup (znew c 100 20) this 3 (c 0 0))
  else none := zf_X3_init_29 _ _ this c
set_option maxRecDepth 100000 in
theorem zf_X3_init_37 (call : zCall) (K : zK) (this : Int) (c : zC) : zseg zc_X3_init zk_X3_init call K 1000 37 [(2, this), (3, 0)] [] c =
  if (znew c 100 20) this (-1) = 4 then
    K 45 [(2, this), (3, 0)] [] (zup (znew c 100 20) this 4 (c 0 0))
  else none := by rfl
theorem ze_X3_init_37 (d F : Nat) (this : Int) (c : zC) : zex zc_X3_init zk_X3_init (zrun zTab d) (F + 1) 37 [(2, this), (3, 0)] [] c =
  if (znew c 100 20) this (-1) = 4 then
    zex zc_X3_init zk_X3_init (zrun zTab d) F 45 [(2, this), (3, 0)] [] (zup (znew c 100 20) this 4 (c 0 0))
  else none := zf_X3_init_37 _ _ this c
set_option maxRecDepth 100000 in
theorem zf_X3_init_45 (call : zCall) (K : zK) (this : Int) (c : zC) : zseg zc_X3_init zk_X3_init call K 1000 45 [(2, this), (3, 0)] [] c =
  if (znew c 100 20) this (-1) = 4 then
    K 53 [(2, this), (3, 0)] [] (zup (znew c 100 20) this 5 (c 0 0))
  else none := by rfl
theorem ze_X3_init_45 (d F : Nat) (this : Int) (c : zC) : zex zc_X3_init zk_X3_init (zrun zTab d) (F + 1) 45 [(2, this), (3, 0)] [] c =
  if (znew c 100 20) this (-1) = 4 then
    zex zc_X3_init zk_X3_init (zrun zTab d) F 53 [(2, this), (3, 0)] [] (zup (znew c 100 20) this 5 (c 0 0))
  else none := zf_X3_init_45 _ _ this c
set_option maxRecDepth 100000 in
theorem zf_X3_init_53 (call : zCall) (K : zK) (this : Int) (c : zC) : zseg zc_X3_init zk_X3_init call K 1000 53 [(2, this), (3, 0)] [] c =
  if (znew c 102 20) this (-1) = 4 then
    K 61 [(2, this), (3, 0)] [] (zup (znew c 102 20) this 6 (c 0 0))
  else none := by rfl
theorem ze_X3_init_53 (d F : Nat) (this : Int) (c : zC) : zex zc_X3_init zk_X3_init (zrun zTab d) (F + 1) 53 [(2, this), (3, 0)] [] c =
  if (znew c 102 20) this (-1) = 4 then
    zex zc_X3_init zk_X3_init (zrun zTab d) F 61 [(2, this), (3, 0)] [] (zup (znew c 102 20) this 6 (c 0 0))
  else none := zf_X3_init_53 _ _ this c
set_option maxRecDepth 100000 in
theorem zf_X3_init_61 (call : zCall) (K : zK) (this : Int) (c : zC) : zseg zc_X3_init zk_X3_init call K 1000 61 [(2, this), (3, 0)] [] c =
  if (znew c 100 20) this (-1) = 4 then
    K 69 [(2, this), (3, 0)] [] (zup (znew c 100 20) this 7 (c 0 0))
  else none := by rfl
theorem ze_X3_init_61 (d F : Nat) (this : Int) (c : zC) : zex zc_X3_init zk_X3_init (zrun zTab d) (F + 1) 61 [(2, this), (3, 0)] [] c =
  if (znew c 100 20) this (-1) = 4 then
    zex zc_X3_init zk_X3_init (zrun zTab d) F 69 [(2, this), (3, 0)] [] (zup (znew c 100 20) this 7 (c 0 0))
  else none := zf_X3_init_61 _ _ this c
set_option maxRecDepth 100000 in
theorem zf_X3_init_69 (call : zCall) (K : zK) (this : Int) (c : zC) : zseg zc_X3_init zk_X3_init call K 1000 69 [(2, this), (3, 0)] [] c =
  if (znew c 100 20) this (-1) = 4 then
    K 77 [(2, this), (3, 0)] [] (zup (znew c 100 20) this 8 (c 0 0))
  else none := by rfl
theorem ze_X3_init_69 (d F : Nat) (this : Int) (c : zC) : zex zc_X3_init zk_X3_init (zrun zTab d) (F + 1) 69 [(2, this), (3, 0)] [] c =
  if (znew c 100 20) this (-1) = 4 then
    zex zc_X3_init zk_X3_init (zrun zTab d) F 77 [(2, this), (3, 0)] [] (zup (znew c 100 20) this 8 (c 0 0))
  else none := zf_X3_init_69 _ _ this c
set_option maxRecDepth 100000 in
theorem zf_X3_init_77 (call : zCall) (K : zK) (this : Int) (c : zC) : zseg zc_X3_init zk_X3_init call K 1000 77 [(2, this), (3, 0)] [] c =
  if (znew c 6 4) (c 0 0) (-1) = 6 then
    zbnd (call 53 [c 0 0] (znew c 6 4)) (fun _ c2 =>
      if c2 this (-1) = 4 then
        K 88 [(2, this), (3, 0)] [] (zup c2 this 9 (c 0 0))
      else none)
  else none := by rfl
theorem ze_X3_init_77 (d F : Nat) (this : Int) (c : zC) : zex zc_X3_init zk_X3_init (zrun zTab d) (F + 1) 77 [(2, this), (3, 0)] [] c =
  if (znew c 6 4) (c 0 0) (-1) = 6 then
    zbnd (zrun zTab d 53 [c 0 0] (znew c 6 4)) (fun _ c2 =>
      if c2 this (-1) = 4 then
        zex zc_X3_init zk_X3_init (zrun zTab d) F 88 [(2, this), (3, 0)] [] (zup c2 this 9 (c 0 0))
      else none)
  else none := zf_X3_init_77 _ _ this c
set_option maxRecDepth 100000 in
theorem zf_X3_init_88 (call : zCall) (K : zK) (this : Int) (c : zC) : zseg zc_X3_init zk_X3_init call K 1000 88 [(2, this), (3, 0)] [] c =
  K 90 [(2, this), (0, 0)] [] c := by rfl
theorem ze_X3_init_88 (d F : Nat) (this : Int) (c : zC) : zex zc_X3_init zk_X3_init (zrun zTab d) (F + 1) 88 [(2, this), (3, 0)] [] c =
  zex zc_X3_init zk_X3_init (zrun zTab d) F 90 [(2, this), (0, 0)] [] c := zf_X3_init_88 _ _ this c
set_option maxRecDepth 100000 in
theorem zf_X3_init_90 (call : zCall) (K : zK) (this x1 : Int) (c : zC) : zseg zc_X3_init zk_X3_init call K 1000 90 [(2, this), (0, x1)] [] c =
  if c this (-1) = 4 then
    if c (c this 0) (-1) = 110 then
      if x1 < (c (c this 0) (-2)) then
        if c this (-1) = 4 then
          if (znew c 1 3) (c 0 0) (-1) = 1 then
            zbnd (call 0 [c 0 0] (znew c 1 3)) (fun _ c2 =>
              if c2 (c this 0) (-1) = 110 ∧ (0 : Int) ≤ x1 ∧ x1 < c2 (c this 0) (-2) then
                if c2 (c 0 0) (-1) = 1 then
                  K 90 [(2, this), (0, zw (x1 + 1))] [] (zup c2 (c this 0) x1 (c 0 0))
                else none
              else none)
          else none
        else none
      else
        some (0, c)
    else none
  else none := by rfl
theorem ze_X3_init_90 (d F : Nat) (this x1 : Int) (c : zC) : zex zc_X3_init zk_X3_init (zrun zTab d) (F + 1) 90 [(2, this), (0, x1)] [] c =
  if c this (-1) = 4 then
    if c (c this 0) (-1) = 110 then
      if x1 < (c (c this 0) (-2)) then
        if c this (-1) = 4 then
          if (znew c 1 3) (c 0 0) (-1) = 1 then
            zbnd (zrun zTab d 0 [c 0 0] (znew c 1 3)) (fun _ c2 =>
              if c2 (c this 0) (-1) = 110 ∧ (0 : Int) ≤ x1 ∧ x1 < c2 (c this 0) (-2) then
                if c2 (c 0 0) (-1) = 1 then
                  zex zc_X3_init zk_X3_init (zrun zTab d) F 90 [(2, this), (0, zw (x1 + 1))] [] (zup c2 (c this 0) x1 (c 0 0))
                else none
              else none)
          else none
        else none
      else
        some (0, c)
    else none
  else none := zf_X3_init_90 _ _ this x1 c
set_option maxRecDepth 100000 in
theorem zf_X3_followFrom (call : zCall) (K : zK) (this x1 x2 : Int) (c : zC) : zseg zc_X3_followFrom zk_X3_followFrom call K 1000 0 [(2, this), (2, x1), (0, x2), (3, 0), (3, 0), (3, 0)] [] c =
  if x1 = 0 then
    if 0 = 0 then
      some (0, c)
    else
      if c 0 (-1) = 5 then
        if c this (-1) = 4 then
          if (zup c this 10 (zmin (c 0 2) 20)) x1 (-1) = 9 then
            if (zup c this 10 (zmin (c 0 2) 20)) this (-1) = 4 then
              if (zup (zup c this 10 (zmin (c 0 2) 20)) this 11 ((zup c this 10 (zmin (c 0 2) 20)) x1 6)) 0 (-1) = 5 then
                if (zup (zup c this 10 (zmin (c 0 2) 20)) this 11 ((zup c this 10 (zmin (c 0 2) 20)) x1 6)) this (-1) = 4 then
                  K 51 [(2, this), (2, x1), (0, x2), (2, 0), (0, 0), (3, 0)] [] (zup (zup (zup c this 10 (zmin (c 0 2) 20)) this 11 ((zup c this 10 (zmin (c 0 2) 20)) x1 6)) this 12 ((zup (zup c this 10 (zmin (c 0 2) 20)) this 11 ((zup c this 10 (zmin (c 0 2) 20)) x1 6)) 0 3))
                else none
              else none
            else none
          else none
        else none
      else none
  else
    if c x1 (-1) = 9 then
      zbnd (call 67 [x1, x2] c) (fun v1 c2 =>
        if v1 = 0 then
          some (0, c2)
        else
          if c2 v1 (-1) = 5 then
            if c2 this (-1) = 4 then
              if (zup c2 this 10 (zmin (c2 v1 2) 20)) x1 (-1) = 9 then
                if (zup c2 this 10 (zmin (c2 v1 2) 20)) this (-1) = 4 then
                  if (zup (zup c2 this 10 (zmin (c2 v1 2) 20)) this 11 ((zup c2 this 10 (zmin (c2 v1 2) 20)) x1 6)) v1 (-1) = 5 then
                    if (zup (zup c2 this 10 (zmin (c2 v1 2) 20)) this 11 ((zup c2 this 10 (zmin (c2 v1 2) 20)) x1 6)) this (-1) = 4 then
                      K 51 [(2, this), (2, x1), (0, x2), (2, v1), (0, 0), (3, 0)] [] (zup (zup (zup c2 this 10 (zmin (c2 v1 2) 20)) this 11 ((zup c2 this 10 (zmin (c2 v1 2) 20)) x1 6)) this 12 ((zup (zup c2 this 10 (zmin (c2 v1 2) 20)) this 11 ((zup c2 this 10 (zmin (c2 v1 2) 20)) x1 6)) v1 3))
                    else none
                  else none
                else none
              else none
            else none
          else none)
    else none := by rfl
theorem ze_X3_followFrom (d : Nat) (this x1 x2 : Int) (c : zC) : zrun zTab (d + 1) 15 [this, x1, x2] c =
  if x1 = 0 then
    if 0 = 0 then
      some (0, c)
    else
      if c 0 (-1) = 5 then
        if c this (-1) = 4 then
          if (zup c this 10 (zmin (c 0 2) 20)) x1 (-1) = 9 then
            if (zup c this 10 (zmin (c 0 2) 20)) this (-1) = 4 then
              if (zup (zup c this 10 (zmin (c 0 2) 20)) this 11 ((zup c this 10 (zmin (c 0 2) 20)) x1 6)) 0 (-1) = 5 then
                if (zup (zup c this 10 (zmin (c 0 2) 20)) this 11 ((zup c this 10 (zmin (c 0 2) 20)) x1 6)) this (-1) = 4 then
                  zex zc_X3_followFrom zk_X3_followFrom (zrun zTab d) 19999 51 [(2, this), (2, x1), (0, x2), (2, 0), (0, 0), (3, 0)] [] (zup (zup (zup c this 10 (zmin (c 0 2) 20)) this 11 ((zup c this 10 (zmin (c 0 2) 20)) x1 6)) this 12 ((zup (zup c this 10 (zmin (c 0 2) 20)) this 11 ((zup c this 10 (zmin (c 0 2) 20)) x1 6)) 0 3))
                else none
              else none
            else none
          else none
        else none
      else none
  else
    if c x1 (-1) = 9 then
      zbnd (zrun zTab d 67 [x1, x2] c) (fun v1 c2 =>
        if v1 = 0 then
          some (0, c2)
        else
          if c2 v1 (-1) = 5 then
            if c2 this (-1) = 4 then
              if (zup c2 this 10 (zmin (c2 v1 2) 20)) x1 (-1) = 9 then
                if (zup c2 this 10 (zmin (c2 v1 2) 20)) this (-1) = 4 then
                  if (zup (zup c2 this 10 (zmin (c2 v1 2) 20)) this 11 ((zup c2 this 10 (zmin (c2 v1 2) 20)) x1 6)) v1 (-1) = 5 then
                    if (zup (zup c2 this 10 (zmin (c2 v1 2) 20)) this 11 ((zup c2 this 10 (zmin (c2 v1 2) 20)) x1 6)) this (-1) = 4 then
                      zex zc_X3_followFrom zk_X3_followFrom (zrun zTab d) 19999 51 [(2, this), (2, x1), (0, x2), (2, v1), (0, 0), (3, 0)] [] (zup (zup (zup c2 this 10 (zmin (c2 v1 2) 20)) this 11 ((zup c2 this 10 (zmin (c2 v1 2) 20)) x1 6)) this 12 ((zup (zup c2 this 10 (zmin (c2 v1 2) 20)) this 11 ((zup c2 this 10 (zmin (c2 v1 2) 20)) x1 6)) v1 3))
                    else none
                  else none
                else none
              else none
            else none
          else none)
    else none := (zrun_s zt15).trans (zf_X3_followFrom _ _ this x1 x2 c)
set_option maxRecDepth 100000 in
theorem zf_X3_followFrom_51 (call : zCall) (K : zK) (this x1 x2 x3 x4 : Int) (c : zC) : zseg zc_X3_followFrom zk_X3_followFrom call K 1000 51 [(2, this), (2, x1), (0, x2), (2, x3), (0, x4), (3, 0)] [] c =
  if c this (-1) = 4 then
    if x4 < (c this 10) then
      if c this (-1) = 4 then
        if c x3 (-1) = 5 then
          zbnd (call 43 [x3, x4] c) (fun v1 c2 =>
            if c2 (c this 1) (-1) = 100 ∧ (0 : Int) ≤ x4 ∧ x4 < c2 (c this 1) (-2) then
              if (zup c2 (c this 1) x4 v1) this (-1) = 4 then
                zbnd (call 22 [this, x4] (zup c2 (c this 1) x4 v1)) (fun v3 c4 =>
                  if v3 = 0 then
                    K 51 [(2, this), (2, x1), (0, x2), (2, x3), (0, zw (x4 + 1)), (3, 0)] [] c4
                  else
                    if c4 x3 (-1) = 5 then
                      zbnd (call 42 [x3, x4] c4) (fun v5 c6 =>
                        if c6 v3 (-1) = 1 then
                          zbnd (call 4 [v3, x1, v5] c6) (fun _ c8 =>
                            K 51 [(2, this), (2, x1), (0, x2), (2, x3), (0, zw (x4 + 1)), (3, 0)] [] c8)
                        else none)
                    else none)
              else none
            else none)
        else none
      else none
    else
      K 107 [(2, this), (2, x1), (0, x2), (3, 0), (0, 0), (3, 0)] [] c
  else none := by rfl
theorem ze_X3_followFrom_51 (d F : Nat) (this x1 x2 x3 x4 : Int) (c : zC) : zex zc_X3_followFrom zk_X3_followFrom (zrun zTab d) (F + 1) 51 [(2, this), (2, x1), (0, x2), (2, x3), (0, x4), (3, 0)] [] c =
  if c this (-1) = 4 then
    if x4 < (c this 10) then
      if c this (-1) = 4 then
        if c x3 (-1) = 5 then
          zbnd (zrun zTab d 43 [x3, x4] c) (fun v1 c2 =>
            if c2 (c this 1) (-1) = 100 ∧ (0 : Int) ≤ x4 ∧ x4 < c2 (c this 1) (-2) then
              if (zup c2 (c this 1) x4 v1) this (-1) = 4 then
                zbnd (zrun zTab d 22 [this, x4] (zup c2 (c this 1) x4 v1)) (fun v3 c4 =>
                  if v3 = 0 then
                    zex zc_X3_followFrom zk_X3_followFrom (zrun zTab d) F 51 [(2, this), (2, x1), (0, x2), (2, x3), (0, zw (x4 + 1)), (3, 0)] [] c4
                  else
                    if c4 x3 (-1) = 5 then
                      zbnd (zrun zTab d 42 [x3, x4] c4) (fun v5 c6 =>
                        if c6 v3 (-1) = 1 then
                          zbnd (zrun zTab d 4 [v3, x1, v5] c6) (fun _ c8 =>
                            zex zc_X3_followFrom zk_X3_followFrom (zrun zTab d) F 51 [(2, this), (2, x1), (0, x2), (2, x3), (0, zw (x4 + 1)), (3, 0)] [] c8)
                        else none)
                    else none)
              else none
            else none)
        else none
      else none
    else
      zex zc_X3_followFrom zk_X3_followFrom (zrun zTab d) F 107 [(2, this), (2, x1), (0, x2), (3, 0), (0, 0), (3, 0)] [] c
  else none := zf_X3_followFrom_51 _ _ this x1 x2 x3 x4 c
set_option maxRecDepth 100000 in
theorem zf_X3_followFrom_107 (call : zCall) (K : zK) (this x1 x2 x4 : Int) (c : zC) : zseg zc_X3_followFrom zk_X3_followFrom call K 1000 107 [(2, this), (2, x1), (0, x2), (3, 0), (0, x4), (3, 0)] [] c =
  if c this (-1) = 4 then
    if x4 < (c this 10) then
      if c this (-1) = 4 then
        zbnd (call 16 [this, x1, x4] c) (fun _ c2 =>
          if c2 this (-1) = 4 then
            zbnd (call 17 [this, x1, x4] c2) (fun _ c4 =>
              if c4 this (-1) = 4 then
                if c4 (c4 this 4) (-1) = 100 ∧ (0 : Int) ≤ x4 ∧ x4 < c4 (c4 this 4) (-2) then
                  if c4 x1 (-1) = 9 then
                    zbnd (call 68 [x1, c4 (c4 this 4) x4] c4) (fun v5 c6 =>
                      if c6 this (-1) = 4 then
                        if v5 = 0 then
                          if c6 (c6 this 6) (-1) = 102 ∧ (0 : Int) ≤ x4 ∧ x4 < c6 (c6 this 6) (-2) then
                            K 107 [(2, this), (2, x1), (0, x2), (3, 0), (0, zw (x4 + 1)), (3, 0)] [] (zup c6 (c6 this 6) x4 0)
                          else none
                        else
                          if c6 v5 (-1) = 8 then
                            if (c6 v5 3) = x2 then
                              if c6 (c6 this 6) (-1) = 102 ∧ (0 : Int) ≤ x4 ∧ x4 < c6 (c6 this 6) (-2) then
                                K 107 [(2, this), (2, x1), (0, x2), (3, 0), (0, zw (x4 + 1)), (3, 0)] [] (zup c6 (c6 this 6) x4 1)
                              else none
                            else
                              if c6 (c6 this 6) (-1) = 102 ∧ (0 : Int) ≤ x4 ∧ x4 < c6 (c6 this 6) (-2) then
                                K 107 [(2, this), (2, x1), (0, x2), (3, 0), (0, zw (x4 + 1)), (3, 0)] [] (zup c6 (c6 this 6) x4 0)
                              else none
                          else none
                      else none)
                  else none
                else none
              else none)
          else none)
      else none
    else
      if c this (-1) = 4 then
        if c this (-1) = 4 then
          if c this (-1) = 4 then
            zbnd (call 19 [this, c this 12, (-1), c this 7] c) (fun v7 c8 =>
              if c8 this (-1) = 4 then
                some (0, zup c8 this 13 1)
              else none)
          else none
        else none
      else none
  else none := by rfl
theorem ze_X3_followFrom_107 (d F : Nat) (this x1 x2 x4 : Int) (c : zC) : zex zc_X3_followFrom zk_X3_followFrom (zrun zTab d) (F + 1) 107 [(2, this), (2, x1), (0, x2), (3, 0), (0, x4), (3, 0)] [] c =
  if c this (-1) = 4 then
    if x4 < (c this 10) then
      if c this (-1) = 4 then
        zbnd (zrun zTab d 16 [this, x1, x4] c) (fun _ c2 =>
          if c2 this (-1) = 4 then
            zbnd (zrun zTab d 17 [this, x1, x4] c2) (fun _ c4 =>
              if c4 this (-1) = 4 then
                if c4 (c4 this 4) (-1) = 100 ∧ (0 : Int) ≤ x4 ∧ x4 < c4 (c4 this 4) (-2) then
                  if c4 x1 (-1) = 9 then
                    zbnd (zrun zTab d 68 [x1, c4 (c4 this 4) x4] c4) (fun v5 c6 =>
                      if c6 this (-1) = 4 then
                        if v5 = 0 then
                          if c6 (c6 this 6) (-1) = 102 ∧ (0 : Int) ≤ x4 ∧ x4 < c6 (c6 this 6) (-2) then
                            zex zc_X3_followFrom zk_X3_followFrom (zrun zTab d) F 107 [(2, this), (2, x1), (0, x2), (3, 0), (0, zw (x4 + 1)), (3, 0)] [] (zup c6 (c6 this 6) x4 0)
                          else none
                        else
                          if c6 v5 (-1) = 8 then
                            if (c6 v5 3) = x2 then
                              if c6 (c6 this 6) (-1) = 102 ∧ (0 : Int) ≤ x4 ∧ x4 < c6 (c6 this 6) (-2) then
                                zex zc_X3_followFrom zk_X3_followFrom (zrun zTab d) F 107 [(2, this), (2, x1), (0, x2), (3, 0), (0, zw (x4 + 1)), (3, 0)] [] (zup c6 (c6 this 6) x4 1)
                              else none
                            else
                              if c6 (c6 this 6) (-1) = 102 ∧ (0 : Int) ≤ x4 ∧ x4 < c6 (c6 this 6) (-2) then
                                zex zc_X3_followFrom zk_X3_followFrom (zrun zTab d) F 107 [(2, this), (2, x1), (0, x2), (3, 0), (0, zw (x4 + 1)), (3, 0)] [] (zup c6 (c6 this 6) x4 0)
                              else none
                          else none
                      else none)
                  else none
                else none
              else none)
          else none)
      else none
    else
      if c this (-1) = 4 then
        if c this (-1) = 4 then
          if c this (-1) = 4 then
            zbnd (zrun zTab d 19 [this, c this 12, (-1), c this 7] c) (fun v7 c8 =>
              if c8 this (-1) = 4 then
                some (0, zup c8 this 13 1)
              else none)
          else none
        else none
      else none
  else none := zf_X3_followFrom_107 _ _ this x1 x2 x4 c
set_option maxRecDepth 100000 in
theorem zf_X3_findHead (call : zCall) (K : zK) (this x1 x2 : Int) (c : zC) : zseg zc_X3_findHead zk_X3_findHead call K 1000 0 [(2, this), (2, x1), (0, x2), (3, 0), (3, 0)] [] c =
  if c this (-1) = 4 then
    zbnd (call 22 [this, x2] c) (fun v1 c2 =>
      if v1 = 0 then
        some (0, c2)
      else
        if x2 < 0 then
          some (0, c2)
        else
          if c2 this (-1) = 4 then
            if c2 (c2 this 2) (-1) = 101 then
              if x2 < (c2 (c2 this 2) (-2)) then
                if c2 this (-1) = 4 then
                  if c2 (c2 this 3) (-1) = 100 then
                    if x2 < (c2 (c2 this 3) (-2)) then
                      if c2 this (-1) = 4 then
                        if c2 (c2 this 2) (-1) = 101 ∧ (0 : Int) ≤ x2 ∧ x2 < c2 (c2 this 2) (-2) then
                          if (zup c2 (c2 this 2) x2 0) this (-1) = 4 then
                            if (zup c2 (c2 this 2) x2 0) ((zup c2 (c2 this 2) x2 0) this 3) (-1) = 100 ∧ (0 : Int) ≤ x2 ∧ x2 < (zup c2 (c2 this 2) x2 0) ((zup c2 (c2 this 2) x2 0) this 3) (-2) then
                              K 51 [(2, this), (2, x1), (0, x2), (2, v1), (0, 0)] [] (zup (zup c2 (c2 this 2) x2 0) ((zup c2 (c2 this 2) x2 0) this 3) x2 (-5))
                            else none
                          else none
                        else none
                      else none
                    else
                      some (0, c2)
                  else none
                else none
              else
                some (0, c2)
            else none
          else none)
  else none := by rfl
theorem ze_X3_findHead (d : Nat) (this x1 x2 : Int) (c : zC) : zrun zTab (d + 1) 16 [this, x1, x2] c =
  if c this (-1) = 4 then
    zbnd (zrun zTab d 22 [this, x2] c) (fun v1 c2 =>
      if v1 = 0 then
        some (0, c2)
      else
        if x2 < 0 then
          some (0, c2)
        else
          if c2 this (-1) = 4 then
            if c2 (c2 this 2) (-1) = 101 then
              if x2 < (c2 (c2 this 2) (-2)) then
                if c2 this (-1) = 4 then
                  if c2 (c2 this 3) (-1) = 100 then
                    if x2 < (c2 (c2 this 3) (-2)) then
                      if c2 this (-1) = 4 then
                        if c2 (c2 this 2) (-1) = 101 ∧ (0 : Int) ≤ x2 ∧ x2 < c2 (c2 this 2) (-2) then
                          if (zup c2 (c2 this 2) x2 0) this (-1) = 4 then
                            if (zup c2 (c2 this 2) x2 0) ((zup c2 (c2 this 2) x2 0) this 3) (-1) = 100 ∧ (0 : Int) ≤ x2 ∧ x2 < (zup c2 (c2 this 2) x2 0) ((zup c2 (c2 this 2) x2 0) this 3) (-2) then
                              zex zc_X3_findHead zk_X3_findHead (zrun zTab d) 19999 51 [(2, this), (2, x1), (0, x2), (2, v1), (0, 0)] [] (zup (zup c2 (c2 this 2) x2 0) ((zup c2 (c2 this 2) x2 0) this 3) x2 (-5))
                            else none
                          else none
                        else none
                      else none
                    else
                      some (0, c2)
                  else none
                else none
              else
                some (0, c2)
            else none
          else none)
  else none := (zrun_s zt16).trans (zf_X3_findHead _ _ this x1 x2 c)
set_option maxRecDepth 100000 in
theorem zf_X3_findHead_51 (call : zCall) (K : zK) (this x1 x2 x3 x4 : Int) (c : zC) : zseg zc_X3_findHead zk_X3_findHead call K 1000 51 [(2, this), (2, x1), (0, x2), (2, x3), (0, x4)] [] c =
  if c x3 (-1) = 1 then
    if x4 < (c x3 2) then
      if c this (-1) = 4 then
        if c (c this 2) (-1) = 101 ∧ (0 : Int) ≤ x2 ∧ x2 < c (c this 2) (-2) then
          if (if 0 < c (c this 2) x2 then 1 else if c (c this 2) x2 = 0 then 0 else -1) = 0 then
            if c x3 (-1) = 1 then
              zbnd (call 1 [x3, x4] c) (fun v1 c2 =>
                if c2 x1 (-1) = 9 then
                  zbnd (call 70 [x1, v1] c2) (fun v3 c4 =>
                    if v3 = 0 then
                      K 51 [(2, this), (2, x1), (0, x2), (2, x3), (0, zw (x4 + 1))] [] c4
                    else
                      if c4 this (-1) = 4 then
                        if c4 x3 (-1) = 1 then
                          zbnd (call 1 [x3, x4] c4) (fun v5 c6 =>
                            if c6 (c4 this 2) (-1) = 101 ∧ (0 : Int) ≤ x2 ∧ x2 < c6 (c4 this 2) (-2) then
                              if (zup c6 (c4 this 2) x2 v5) this (-1) = 4 then
                                if (zup c6 (c4 this 2) x2 v5) x3 (-1) = 1 then
                                  zbnd (call 2 [x3, x4] (zup c6 (c4 this 2) x2 v5)) (fun v7 c8 =>
                                    if c8 ((zup c6 (c4 this 2) x2 v5) this 3) (-1) = 100 ∧ (0 : Int) ≤ x2 ∧ x2 < c8 ((zup c6 (c4 this 2) x2 v5) this 3) (-2) then
                                      K 51 [(2, this), (2, x1), (0, x2), (2, x3), (0, zw (x4 + 1))] [] (zup c8 ((zup c6 (c4 this 2) x2 v5) this 3) x2 v7)
                                    else none)
                                else none
                              else none
                            else none)
                        else none
                      else none)
                else none)
            else none
          else
            some (0, c)
        else none
      else none
    else
      some (0, c)
  else none := by rfl
theorem ze_X3_findHead_51 (d F : Nat) (this x1 x2 x3 x4 : Int) (c : zC) : zex zc_X3_findHead zk_X3_findHead (zrun zTab d) (F + 1) 51 [(2, this), (2, x1), (0, x2), (2, x3), (0, x4)] [] c =
  if c x3 (-1) = 1 then
    if x4 < (c x3 2) then
      if c this (-1) = 4 then
        if c (c this 2) (-1) = 101 ∧ (0 : Int) ≤ x2 ∧ x2 < c (c this 2) (-2) then
          if (if 0 < c (c this 2) x2 then 1 else if c (c this 2) x2 = 0 then 0 else -1) = 0 then
            if c x3 (-1) = 1 then
              zbnd (zrun zTab d 1 [x3, x4] c) (fun v1 c2 =>
                if c2 x1 (-1) = 9 then
                  zbnd (zrun zTab d 70 [x1, v1] c2) (fun v3 c4 =>
                    if v3 = 0 then
                      zex zc_X3_findHead zk_X3_findHead (zrun zTab d) F 51 [(2, this), (2, x1), (0, x2), (2, x3), (0, zw (x4 + 1))] [] c4
                    else
                      if c4 this (-1) = 4 then
                        if c4 x3 (-1) = 1 then
                          zbnd (zrun zTab d 1 [x3, x4] c4) (fun v5 c6 =>
                            if c6 (c4 this 2) (-1) = 101 ∧ (0 : Int) ≤ x2 ∧ x2 < c6 (c4 this 2) (-2) then
                              if (zup c6 (c4 this 2) x2 v5) this (-1) = 4 then
                                if (zup c6 (c4 this 2) x2 v5) x3 (-1) = 1 then
                                  zbnd (zrun zTab d 2 [x3, x4] (zup c6 (c4 this 2) x2 v5)) (fun v7 c8 =>
                                    if c8 ((zup c6 (c4 this 2) x2 v5) this 3) (-1) = 100 ∧ (0 : Int) ≤ x2 ∧ x2 < c8 ((zup c6 (c4 this 2) x2 v5) this 3) (-2) then
                                      zex zc_X3_findHead zk_X3_findHead (zrun zTab d) F 51 [(2, this), (2, x1), (0, x2), (2, x3), (0, zw (x4 + 1))] [] (zup c8 ((zup c6 (c4 this 2) x2 v5) this 3) x2 v7)
                                    else none)
                                else none
                              else none
                            else none)
                        else none
                      else none)
                else none)
            else none
          else
            some (0, c)
        else none
      else none
    else
      some (0, c)
  else none := zf_X3_findHead_51 _ _ this x1 x2 x3 x4 c
set_option maxRecDepth 100000 in
theorem zf_X3_chooseSense (call : zCall) (K : zK) (this x1 x2 : Int) (c : zC) : zseg zc_X3_chooseSense zk_X3_chooseSense call K 1000 0 [(2, this), (2, x1), (0, x2), (3, 0), (3, 0), (3, 0), (3, 0)] [] c =
  if x2 < 0 then
    some (0, c)
  else
    if c this (-1) = 4 then
      if c (c this 2) (-1) = 101 then
        if x2 < (c (c this 2) (-2)) then
          if c this (-1) = 4 then
            if c (c this 4) (-1) = 100 then
              if x2 < (c (c this 4) (-2)) then
                if c this (-1) = 4 then
                  if c (c this 5) (-1) = 100 then
                    if x2 < (c (c this 5) (-2)) then
                      if c this (-1) = 4 then
                        if c (c this 4) (-1) = 100 ∧ (0 : Int) ≤ x2 ∧ x2 < c (c this 4) (-2) then
                          if (zup c (c this 4) x2 (-5)) this (-1) = 4 then
                            if (zup c (c this 4) x2 (-5)) ((zup c (c this 4) x2 (-5)) this 5) (-1) = 100 ∧ (0 : Int) ≤ x2 ∧ x2 < (zup c (c this 4) x2 (-5)) ((zup c (c this 4) x2 (-5)) this 5) (-2) then
                              K 53 [(2, this), (2, x1), (0, x2), (0, 0), (0, 0), (3, 0), (3, 0)] [] (zup (zup c (c this 4) x2 (-5)) ((zup c (c this 4) x2 (-5)) this 5) x2 (-5))
                            else none
                          else none
                        else none
                      else none
                    else
                      some (0, c)
                  else none
                else none
              else
                some (0, c)
            else none
          else none
        else
          some (0, c)
      else none
    else none := by rfl
theorem ze_X3_chooseSense (d : Nat) (this x1 x2 : Int) (c : zC) : zrun zTab (d + 1) 17 [this, x1, x2] c =
  if x2 < 0 then
    some (0, c)
  else
    if c this (-1) = 4 then
      if c (c this 2) (-1) = 101 then
        if x2 < (c (c this 2) (-2)) then
          if c this (-1) = 4 then
            if c (c this 4) (-1) = 100 then
              if x2 < (c (c this 4) (-2)) then
                if c this (-1) = 4 then
                  if c (c this 5) (-1) = 100 then
                    if x2 < (c (c this 5) (-2)) then
                      if c this (-1) = 4 then
                        if c (c this 4) (-1) = 100 ∧ (0 : Int) ≤ x2 ∧ x2 < c (c this 4) (-2) then
                          if (zup c (c this 4) x2 (-5)) this (-1) = 4 then
                            if (zup c (c this 4) x2 (-5)) ((zup c (c this 4) x2 (-5)) this 5) (-1) = 100 ∧ (0 : Int) ≤ x2 ∧ x2 < (zup c (c this 4) x2 (-5)) ((zup c (c this 4) x2 (-5)) this 5) (-2) then
                              zex zc_X3_chooseSense zk_X3_chooseSense (zrun zTab d) 19999 53 [(2, this), (2, x1), (0, x2), (0, 0), (0, 0), (3, 0), (3, 0)] [] (zup (zup c (c this 4) x2 (-5)) ((zup c (c this 4) x2 (-5)) this 5) x2 (-5))
                            else none
                          else none
                        else none
                      else none
                    else
                      some (0, c)
                  else none
                else none
              else
                some (0, c)
            else none
          else none
        else
          some (0, c)
      else none
    else none := (zrun_s zt17).trans (zf_X3_chooseSense _ _ this x1 x2 c)
set_option maxRecDepth 100000 in
theorem zf_X3_chooseSense_53 (call : zCall) (K : zK) (this x1 x2 x3 x4 : Int) (c : zC) : zseg zc_X3_chooseSense zk_X3_chooseSense call K 1000 53 [(2, this), (2, x1), (0, x2), (0, x3), (0, x4), (3, 0), (3, 0)] [] c =
  if c x1 (-1) = 9 then
    if x4 < (c x1 3) then
      if c x1 (-1) = 9 then
        zbnd (call 68 [x1, x4] c) (fun v1 c2 =>
          if v1 = 0 then
            K 53 [(2, this), (2, x1), (0, x2), (0, x3), (0, zw (x4 + 1)), (3, 0), (3, 0)] [] c2
          else
            if c2 v1 (-1) = 8 then
              if c2 this (-1) = 4 then
                if c2 (c2 this 2) (-1) = 101 ∧ (0 : Int) ≤ x2 ∧ x2 < c2 (c2 this 2) (-2) then
                  if (if c2 (c2 this 2) x2 < c2 v1 0 then 1 else if c2 v1 0 = c2 (c2 this 2) x2 then 0 else -1) = 0 then
                    if c2 x1 (-1) = 9 then
                      if c2 this (-1) = 4 then
                        zbnd (call 18 [this, v1, x2, c2 x1 5] c2) (fun v3 c4 =>
                          if c4 this (-1) = 4 then
                            if c4 (c4 this 5) (-1) = 100 ∧ (0 : Int) ≤ x2 ∧ x2 < c4 (c4 this 5) (-2) then
                              if v3 ≤ (c4 (c4 this 5) x2) then
                                K 53 [(2, this), (2, x1), (0, x2), (0, zw (x3 + 1)), (0, zw (x4 + 1)), (3, 0), (3, 0)] [] c4
                              else
                                if c4 this (-1) = 4 then
                                  if c4 (c4 this 4) (-1) = 100 ∧ (0 : Int) ≤ x2 ∧ x2 < c4 (c4 this 4) (-2) then
                                    if (zup c4 (c4 this 4) x2 x4) this (-1) = 4 then
                                      if (zup c4 (c4 this 4) x2 x4) ((zup c4 (c4 this 4) x2 x4) this 5) (-1) = 100 ∧ (0 : Int) ≤ x2 ∧ x2 < (zup c4 (c4 this 4) x2 x4) ((zup c4 (c4 this 4) x2 x4) this 5) (-2) then
                                        K 53 [(2, this), (2, x1), (0, x2), (0, zw (x3 + 1)), (0, zw (x4 + 1)), (3, 0), (3, 0)] [] (zup (zup c4 (c4 this 4) x2 x4) ((zup c4 (c4 this 4) x2 x4) this 5) x2 v3)
                                      else none
                                    else none
                                  else none
                                else none
                            else none
                          else none)
                      else none
                    else none
                  else
                    K 53 [(2, this), (2, x1), (0, x2), (0, x3), (0, zw (x4 + 1)), (3, 0), (3, 0)] [] c2
                else none
              else none
            else none)
      else none
    else
      if x3 ≤ 1 then
        some (0, c)
      else
        if c this (-1) = 4 then
          if c (c this 5) (-1) = 100 ∧ (0 : Int) ≤ x2 ∧ x2 < c (c this 5) (-2) then
            if (c (c this 5) x2) = 0 then
              if c this (-1) = 4 then
                if c (c this 4) (-1) = 100 ∧ (0 : Int) ≤ x2 ∧ x2 < c (c this 4) (-2) then
                  if (zup c (c this 4) x2 (-5)) this (-1) = 4 then
                    if (zup c (c this 4) x2 (-5)) ((zup c (c this 4) x2 (-5)) this 5) (-1) = 100 ∧ (0 : Int) ≤ x2 ∧ x2 < (zup c (c this 4) x2 (-5)) ((zup c (c this 4) x2 (-5)) this 5) (-2) then
                      some (0, zup (zup c (c this 4) x2 (-5)) ((zup c (c this 4) x2 (-5)) this 5) x2 (-5))
                    else none
                  else none
                else none
              else none
            else
              some (0, c)
          else none
        else none
  else none := by rfl
theorem ze_X3_chooseSense_53 (d F : Nat) (this x1 x2 x3 x4 : Int) (c : zC) : zex zc_X3_chooseSense zk_X3_chooseSense (zrun zTab d) (F + 1) 53 [(2, this), (2, x1), (0, x2), (0, x3), (0, x4), (3, 0), (3, 0)] [] c =
  if c x1 (-1) = 9 then
    if x4 < (c x1 3) then
      if c x1 (-1) = 9 then
        zbnd (zrun zTab d 68 [x1, x4] c) (fun v1 c2 =>
          if v1 = 0 then
            zex zc_X3_chooseSense zk_X3_chooseSense (zrun zTab d) F 53 [(2, this), (2, x1), (0, x2), (0, x3), (0, zw (x4 + 1)), (3, 0), (3, 0)] [] c2
          else
            if c2 v1 (-1) = 8 then
              if c2 this (-1) = 4 then
                if c2 (c2 this 2) (-1) = 101 ∧ (0 : Int) ≤ x2 ∧ x2 < c2 (c2 this 2) (-2) then
                  if (if c2 (c2 this 2) x2 < c2 v1 0 then 1 else if c2 v1 0 = c2 (c2 this 2) x2 then 0 else -1) = 0 then
                    if c2 x1 (-1) = 9 then
                      if c2 this (-1) = 4 then
                        zbnd (zrun zTab d 18 [this, v1, x2, c2 x1 5] c2) (fun v3 c4 =>
                          if c4 this (-1) = 4 then
                            if c4 (c4 this 5) (-1) = 100 ∧ (0 : Int) ≤ x2 ∧ x2 < c4 (c4 this 5) (-2) then
                              if v3 ≤ (c4 (c4 this 5) x2) then
                                zex zc_X3_chooseSense zk_X3_chooseSense (zrun zTab d) F 53 [(2, this), (2, x1), (0, x2), (0, zw (x3 + 1)), (0, zw (x4 + 1)), (3, 0), (3, 0)] [] c4
                              else
                                if c4 this (-1) = 4 then
                                  if c4 (c4 this 4) (-1) = 100 ∧ (0 : Int) ≤ x2 ∧ x2 < c4 (c4 this 4) (-2) then
                                    if (zup c4 (c4 this 4) x2 x4) this (-1) = 4 then
                                      if (zup c4 (c4 this 4) x2 x4) ((zup c4 (c4 this 4) x2 x4) this 5) (-1) = 100 ∧ (0 : Int) ≤ x2 ∧ x2 < (zup c4 (c4 this 4) x2 x4) ((zup c4 (c4 this 4) x2 x4) this 5) (-2) then
                                        zex zc_X3_chooseSense zk_X3_chooseSense (zrun zTab d) F 53 [(2, this), (2, x1), (0, x2), (0, zw (x3 + 1)), (0, zw (x4 + 1)), (3, 0), (3, 0)] [] (zup (zup c4 (c4 this 4) x2 x4) ((zup c4 (c4 this 4) x2 x4) this 5) x2 v3)
                                      else none
                                    else none
                                  else none
                                else none
                            else none
                          else none)
                      else none
                    else none
                  else
                    zex zc_X3_chooseSense zk_X3_chooseSense (zrun zTab d) F 53 [(2, this), (2, x1), (0, x2), (0, x3), (0, zw (x4 + 1)), (3, 0), (3, 0)] [] c2
                else none
              else none
            else none)
      else none
    else
      if x3 ≤ 1 then
        some (0, c)
      else
        if c this (-1) = 4 then
          if c (c this 5) (-1) = 100 ∧ (0 : Int) ≤ x2 ∧ x2 < c (c this 5) (-2) then
            if (c (c this 5) x2) = 0 then
              if c this (-1) = 4 then
                if c (c this 4) (-1) = 100 ∧ (0 : Int) ≤ x2 ∧ x2 < c (c this 4) (-2) then
                  if (zup c (c this 4) x2 (-5)) this (-1) = 4 then
                    if (zup c (c this 4) x2 (-5)) ((zup c (c this 4) x2 (-5)) this 5) (-1) = 100 ∧ (0 : Int) ≤ x2 ∧ x2 < (zup c (c this 4) x2 (-5)) ((zup c (c this 4) x2 (-5)) this 5) (-2) then
                      some (0, zup (zup c (c this 4) x2 (-5)) ((zup c (c this 4) x2 (-5)) this 5) x2 (-5))
                    else none
                  else none
                else none
              else none
            else
              some (0, c)
          else none
        else none
  else none := zf_X3_chooseSense_53 _ _ this x1 x2 x3 x4 c
set_option maxRecDepth 100000 in
theorem zf_X3_scoreOf (call : zCall) (K : zK) (this x1 x2 x3 : Int) (c : zC) : zseg zc_X3_scoreOf zk_X3_scoreOf call K 1000 0 [(2, this), (2, x1), (0, x2), (0, x3), (3, 0), (3, 0), (3, 0), (3, 0), (3, 0), (3, 0), (3, 0)] [] c =
  K 6 [(2, this), (2, x1), (0, x2), (0, x3), (0, 0), (0, 0), (3, 0), (3, 0), (3, 0), (3, 0), (3, 0)] [] c := by rfl
theorem ze_X3_scoreOf (d : Nat) (this x1 x2 x3 : Int) (c : zC) : zrun zTab (d + 1) 18 [this, x1, x2, x3] c =
  zex zc_X3_scoreOf zk_X3_scoreOf (zrun zTab d) 19999 6 [(2, this), (2, x1), (0, x2), (0, x3), (0, 0), (0, 0), (3, 0), (3, 0), (3, 0), (3, 0), (3, 0)] [] c := (zrun_s zt18).trans (zf_X3_scoreOf _ _ this x1 x2 x3 c)
set_option maxRecDepth 100000 in
theorem zf_X3_scoreOf_6 (call : zCall) (K : zK) (this x1 x2 x3 x4 x5 : Int) (c : zC) : zseg zc_X3_scoreOf zk_X3_scoreOf call K 1000 6 [(2, this), (2, x1), (0, x2), (0, x3), (0, x4), (0, x5), (3, 0), (3, 0), (3, 0), (3, 0), (3, 0)] [] c =
  if c x1 (-1) = 8 then
    if x5 < (c x1 2) then
      if c x1 (-1) = 8 then
        zbnd (call 63 [x1, x5] c) (fun v1 c2 =>
          K 31 [(2, this), (2, x1), (0, x2), (0, x3), (0, x4), (0, x5), (1, v1), (3, 0), (0, 0), (0, zsub x2 1), (3, 0)] [] c2)
      else none
    else
      some (x4, c)
  else none := by rfl
theorem ze_X3_scoreOf_6 (d F : Nat) (this x1 x2 x3 x4 x5 : Int) (c : zC) : zex zc_X3_scoreOf zk_X3_scoreOf (zrun zTab d) (F + 1) 6 [(2, this), (2, x1), (0, x2), (0, x3), (0, x4), (0, x5), (3, 0), (3, 0), (3, 0), (3, 0), (3, 0)] [] c =
  if c x1 (-1) = 8 then
    if x5 < (c x1 2) then
      if c x1 (-1) = 8 then
        zbnd (zrun zTab d 63 [x1, x5] c) (fun v1 c2 =>
          zex zc_X3_scoreOf zk_X3_scoreOf (zrun zTab d) F 31 [(2, this), (2, x1), (0, x2), (0, x3), (0, x4), (0, x5), (1, v1), (3, 0), (0, 0), (0, zsub x2 1), (3, 0)] [] c2)
      else none
    else
      some (x4, c)
  else none := zf_X3_scoreOf_6 _ _ this x1 x2 x3 x4 x5 c
set_option maxRecDepth 100000 in
theorem zf_X3_scoreOf_31 (call : zCall) (K : zK) (this x1 x2 x3 x4 x5 x6 x8 x9 : Int) (c : zC) : zseg zc_X3_scoreOf zk_X3_scoreOf call K 1000 31 [(2, this), (2, x1), (0, x2), (0, x3), (0, x4), (0, x5), (1, x6), (3, 0), (0, x8), (0, x9), (3, 0)] [] c =
  if x9 < 0 then
    if x8 = 0 then
      K 6 [(2, this), (2, x1), (0, x2), (0, x3), (0, zadd x4 0), (0, zw (x5 + 1)), (3, 0), (3, 0), (3, 0), (3, 0), (3, 0)] [] c
    else
      K 6 [(2, this), (2, x1), (0, x2), (0, x3), (0, zadd x4 1), (0, zw (x5 + 1)), (3, 0), (3, 0), (3, 0), (3, 0), (3, 0)] [] c
  else
    if x9 < (zsub x2 x3) then
      if x8 = 0 then
        K 6 [(2, this), (2, x1), (0, x2), (0, x3), (0, zadd x4 0), (0, zw (x5 + 1)), (3, 0), (3, 0), (3, 0), (3, 0), (3, 0)] [] c
      else
        K 6 [(2, this), (2, x1), (0, x2), (0, x3), (0, zadd x4 1), (0, zw (x5 + 1)), (3, 0), (3, 0), (3, 0), (3, 0), (3, 0)] [] c
    else
      if x8 = 0 then
        if c this (-1) = 4 then
          zbnd (call 22 [this, x9] c) (fun v1 c2 =>
            if v1 = 0 then
              K 31 [(2, this), (2, x1), (0, x2), (0, x3), (0, x4), (0, x5), (1, x6), (3, 0), (0, 0), (0, zw (x9 + (-1))), (3, 0)] [] c2
            else
              if c2 this (-1) = 4 then
                zbnd (call 24 [this, x9] c2) (fun v3 c4 =>
                  if c4 this (-1) = 4 then
                    zbnd (call 24 [this, x2] c4) (fun v5 c6 =>
                      if v3 = v5 then
                        if c6 v1 (-1) = 1 then
                          zbnd (call 3 [v1, x6] c6) (fun v7 c8 =>
                            if v7 = 0 then
                              K 31 [(2, this), (2, x1), (0, x2), (0, x3), (0, x4), (0, x5), (1, x6), (3, 0), (0, 0), (0, zw (x9 + (-1))), (3, 0)] [] c8
                            else
                              K 31 [(2, this), (2, x1), (0, x2), (0, x3), (0, x4), (0, x5), (1, x6), (3, 0), (0, 1), (0, zw (x9 + (-1))), (3, 0)] [] c8)
                        else none
                      else
                        K 31 [(2, this), (2, x1), (0, x2), (0, x3), (0, x4), (0, x5), (1, x6), (3, 0), (0, 0), (0, zw (x9 + (-1))), (3, 0)] [] c6)
                  else none)
              else none)
        else none
      else
        if x8 = 0 then
          K 6 [(2, this), (2, x1), (0, x2), (0, x3), (0, zadd x4 0), (0, zw (x5 + 1)), (3, 0), (3, 0), (3, 0), (3, 0), (3, 0)] [] c
        else
          K 6 [(2, this), (2, x1), (0, x2), (0, x3), (0, zadd x4 1), (0, zw (x5 + 1)), (3, 0), (3, 0), (3, 0), (3, 0), (3, 0)] [] c := by rfl
theorem ze_X3_scoreOf_31 (d F : Nat) (this x1 x2 x3 x4 x5 x6 x8 x9 : Int) (c : zC) : zex zc_X3_scoreOf zk_X3_scoreOf (zrun zTab d) (F + 1) 31 [(2, this), (2, x1), (0, x2), (0, x3), (0, x4), (0, x5), (1, x6), (3, 0), (0, x8), (0, x9), (3, 0)] [] c =
  if x9 < 0 then
    if x8 = 0 then
      zex zc_X3_scoreOf zk_X3_scoreOf (zrun zTab d) F 6 [(2, this), (2, x1), (0, x2), (0, x3), (0, zadd x4 0), (0, zw (x5 + 1)), (3, 0), (3, 0), (3, 0), (3, 0), (3, 0)] [] c
    else
      zex zc_X3_scoreOf zk_X3_scoreOf (zrun zTab d) F 6 [(2, this), (2, x1), (0, x2), (0, x3), (0, zadd x4 1), (0, zw (x5 + 1)), (3, 0), (3, 0), (3, 0), (3, 0), (3, 0)] [] c
  else
    if x9 < (zsub x2 x3) then
      if x8 = 0 then
        zex zc_X3_scoreOf zk_X3_scoreOf (zrun zTab d) F 6 [(2, this), (2, x1), (0, x2), (0, x3), (0, zadd x4 0), (0, zw (x5 + 1)), (3, 0), (3, 0), (3, 0), (3, 0), (3, 0)] [] c
      else
        zex zc_X3_scoreOf zk_X3_scoreOf (zrun zTab d) F 6 [(2, this), (2, x1), (0, x2), (0, x3), (0, zadd x4 1), (0, zw (x5 + 1)), (3, 0), (3, 0), (3, 0), (3, 0), (3, 0)] [] c
    else
      if x8 = 0 then
        if c this (-1) = 4 then
          zbnd (zrun zTab d 22 [this, x9] c) (fun v1 c2 =>
            if v1 = 0 then
              zex zc_X3_scoreOf zk_X3_scoreOf (zrun zTab d) F 31 [(2, this), (2, x1), (0, x2), (0, x3), (0, x4), (0, x5), (1, x6), (3, 0), (0, 0), (0, zw (x9 + (-1))), (3, 0)] [] c2
            else
              if c2 this (-1) = 4 then
                zbnd (zrun zTab d 24 [this, x9] c2) (fun v3 c4 =>
                  if c4 this (-1) = 4 then
                    zbnd (zrun zTab d 24 [this, x2] c4) (fun v5 c6 =>
                      if v3 = v5 then
                        if c6 v1 (-1) = 1 then
                          zbnd (zrun zTab d 3 [v1, x6] c6) (fun v7 c8 =>
                            if v7 = 0 then
                              zex zc_X3_scoreOf zk_X3_scoreOf (zrun zTab d) F 31 [(2, this), (2, x1), (0, x2), (0, x3), (0, x4), (0, x5), (1, x6), (3, 0), (0, 0), (0, zw (x9 + (-1))), (3, 0)] [] c8
                            else
                              zex zc_X3_scoreOf zk_X3_scoreOf (zrun zTab d) F 31 [(2, this), (2, x1), (0, x2), (0, x3), (0, x4), (0, x5), (1, x6), (3, 0), (0, 1), (0, zw (x9 + (-1))), (3, 0)] [] c8)
                        else none
                      else
                        zex zc_X3_scoreOf zk_X3_scoreOf (zrun zTab d) F 31 [(2, this), (2, x1), (0, x2), (0, x3), (0, x4), (0, x5), (1, x6), (3, 0), (0, 0), (0, zw (x9 + (-1))), (3, 0)] [] c6)
                  else none)
              else none)
        else none
      else
        if x8 = 0 then
          zex zc_X3_scoreOf zk_X3_scoreOf (zrun zTab d) F 6 [(2, this), (2, x1), (0, x2), (0, x3), (0, zadd x4 0), (0, zw (x5 + 1)), (3, 0), (3, 0), (3, 0), (3, 0), (3, 0)] [] c
        else
          zex zc_X3_scoreOf zk_X3_scoreOf (zrun zTab d) F 6 [(2, this), (2, x1), (0, x2), (0, x3), (0, zadd x4 1), (0, zw (x5 + 1)), (3, 0), (3, 0), (3, 0), (3, 0), (3, 0)] [] c := zf_X3_scoreOf_31 _ _ this x1 x2 x3 x4 x5 x6 x8 x9 c
set_option maxRecDepth 100000 in
theorem zf_X3_goThrough (call : zCall) (K : zK) (this x1 x2 x3 : Int) (c : zC) : zseg zc_X3_goThrough zk_X3_goThrough call K 1000 0 [(2, this), (0, x1), (0, x2), (2, x3), (3, 0)] [] c =
  if c this (-1) = 4 then
    if c (c this 9) (-1) = 6 then
      zbnd (call 54 [c this 9] c) (fun _ c2 =>
        K 10 [(2, this), (0, x1), (0, x2), (2, x3), (0, 0)] [] c2)
    else none
  else none := by rfl
theorem ze_X3_goThrough (d : Nat) (this x1 x2 x3 : Int) (c : zC) : zrun zTab (d + 1) 19 [this, x1, x2, x3] c =
  if c this (-1) = 4 then
    if c (c this 9) (-1) = 6 then
      zbnd (zrun zTab d 54 [c this 9] c) (fun _ c2 =>
        zex zc_X3_goThrough zk_X3_goThrough (zrun zTab d) 19999 10 [(2, this), (0, x1), (0, x2), (2, x3), (0, 0)] [] c2)
    else none
  else none := (zrun_s zt19).trans (zf_X3_goThrough _ _ this x1 x2 x3 c)
set_option maxRecDepth 100000 in
theorem zf_X3_goThrough_10 (call : zCall) (K : zK) (this x1 x2 x3 x4 : Int) (c : zC) : zseg zc_X3_goThrough zk_X3_goThrough call K 1000 10 [(2, this), (0, x1), (0, x2), (2, x3), (0, x4)] [] c =
  if c this (-1) = 4 then
    if x4 < (c this 10) then
      if c x3 (-1) = 100 then
        if x4 < (c x3 (-2)) then
          if c this (-1) = 4 then
            if c this (-1) = 4 then
              zbnd (call 24 [this, x4] c) (fun v1 c2 =>
                if c2 (c this 9) (-1) = 6 then
                  zbnd (call 55 [c this 9, v1] c2) (fun _ c4 =>
                    if c4 this (-1) = 4 then
                      zbnd (call 20 [this, x4, x1] c4) (fun v5 c6 =>
                        if c6 x3 (-1) = 100 ∧ (0 : Int) ≤ x4 ∧ x4 < c6 x3 (-2) then
                          if (zup c6 x3 x4 v5) x3 (-1) = 100 ∧ (0 : Int) ≤ x4 ∧ x4 < (zup c6 x3 x4 v5) x3 (-2) then
                            if ((zup c6 x3 x4 v5) x3 x4) = 0 then
                              if x4 = x2 then
                                K 10 [(2, this), (0, x1), (0, x2), (2, x3), (0, zw (x4 + 1))] [] (zup c6 x3 x4 v5)
                              else
                                if (zup c6 x3 x4 v5) this (-1) = 4 then
                                  if (zup c6 x3 x4 v5) this (-1) = 4 then
                                    zbnd (call 26 [this, x4] (zup c6 x3 x4 v5)) (fun v7 c8 =>
                                      if c8 ((zup c6 x3 x4 v5) this 9) (-1) = 6 then
                                        zbnd (call 57 [(zup c6 x3 x4 v5) this 9, x4, v7] c8) (fun _ c10 =>
                                          K 10 [(2, this), (0, x1), (0, x2), (2, x3), (0, zw (x4 + 1))] [] c10)
                                      else none)
                                  else none
                                else none
                            else
                              K 10 [(2, this), (0, x1), (0, x2), (2, x3), (0, zw (x4 + 1))] [] (zup c6 x3 x4 v5)
                          else none
                        else none)
                    else none)
                else none)
            else none
          else none
        else
          if c this (-1) = 4 then
            if c (c this 9) (-1) = 6 then
              some (c (c this 9) 3, c)
            else none
          else none
      else none
    else
      if c this (-1) = 4 then
        if c (c this 9) (-1) = 6 then
          some (c (c this 9) 3, c)
        else none
      else none
  else none := by rfl
theorem ze_X3_goThrough_10 (d F : Nat) (this x1 x2 x3 x4 : Int) (c : zC) : zex zc_X3_goThrough zk_X3_goThrough (zrun zTab d) (F + 1) 10 [(2, this), (0, x1), (0, x2), (2, x3), (0, x4)] [] c =
  if c this (-1) = 4 then
    if x4 < (c this 10) then
      if c x3 (-1) = 100 then
        if x4 < (c x3 (-2)) then
          if c this (-1) = 4 then
            if c this (-1) = 4 then
              zbnd (zrun zTab d 24 [this, x4] c) (fun v1 c2 =>
                if c2 (c this 9) (-1) = 6 then
                  zbnd (zrun zTab d 55 [c this 9, v1] c2) (fun _ c4 =>
                    if c4 this (-1) = 4 then
                      zbnd (zrun zTab d 20 [this, x4, x1] c4) (fun v5 c6 =>
                        if c6 x3 (-1) = 100 ∧ (0 : Int) ≤ x4 ∧ x4 < c6 x3 (-2) then
                          if (zup c6 x3 x4 v5) x3 (-1) = 100 ∧ (0 : Int) ≤ x4 ∧ x4 < (zup c6 x3 x4 v5) x3 (-2) then
                            if ((zup c6 x3 x4 v5) x3 x4) = 0 then
                              if x4 = x2 then
                                zex zc_X3_goThrough zk_X3_goThrough (zrun zTab d) F 10 [(2, this), (0, x1), (0, x2), (2, x3), (0, zw (x4 + 1))] [] (zup c6 x3 x4 v5)
                              else
                                if (zup c6 x3 x4 v5) this (-1) = 4 then
                                  if (zup c6 x3 x4 v5) this (-1) = 4 then
                                    zbnd (zrun zTab d 26 [this, x4] (zup c6 x3 x4 v5)) (fun v7 c8 =>
                                      if c8 ((zup c6 x3 x4 v5) this 9) (-1) = 6 then
                                        zbnd (zrun zTab d 57 [(zup c6 x3 x4 v5) this 9, x4, v7] c8) (fun _ c10 =>
                                          zex zc_X3_goThrough zk_X3_goThrough (zrun zTab d) F 10 [(2, this), (0, x1), (0, x2), (2, x3), (0, zw (x4 + 1))] [] c10)
                                      else none)
                                  else none
                                else none
                            else
                              zex zc_X3_goThrough zk_X3_goThrough (zrun zTab d) F 10 [(2, this), (0, x1), (0, x2), (2, x3), (0, zw (x4 + 1))] [] (zup c6 x3 x4 v5)
                          else none
                        else none)
                    else none)
                else none)
            else none
          else none
        else
          if c this (-1) = 4 then
            if c (c this 9) (-1) = 6 then
              some (c (c this 9) 3, c)
            else none
          else none
      else none
    else
      if c this (-1) = 4 then
        if c (c this 9) (-1) = 6 then
          some (c (c this 9) 3, c)
        else none
      else none
  else none := zf_X3_goThrough_10 _ _ this x1 x2 x3 x4 c
set_option maxRecDepth 100000 in
theorem zf_X3_reasonInPass (call : zCall) (K : zK) (this x1 x2 : Int) (c : zC) : zseg zc_X3_reasonInPass zk_X3_reasonInPass call K 1000 0 [(2, this), (0, x1), (0, x2)] [] c =
  if c this (-1) = 4 then
    zbnd (call 25 [this, x1] c) (fun v1 c2 =>
      if v1 = (-5) then
        some (1, c2)
      else
        if c2 this (-1) = 4 then
          zbnd (call 26 [this, x1] c2) (fun v3 c4 =>
            if v3 = (-5) then
              some (2, c4)
            else
              if c4 this (-1) = 4 then
                zbnd (call 21 [this, x1] c4) (fun v5 c6 =>
                  if v5 = 0 then
                    if c6 this (-1) = 4 then
                      if c6 this (-1) = 4 then
                        zbnd (call 26 [this, x1] c6) (fun v7 c8 =>
                          if c8 this (-1) = 4 then
                            if c8 (c6 this 9) (-1) = 6 then
                              zbnd (call 56 [c6 this 9, x1, v7, c8 this 11, x2] c8) (fun v9 c10 =>
                                some (v9, c10))
                            else none
                          else none)
                      else none
                    else none
                  else
                    some (3, c6))
              else none)
        else none)
  else none := by rfl
theorem ze_X3_reasonInPass (d : Nat) (this x1 x2 : Int) (c : zC) : zrun zTab (d + 1) 20 [this, x1, x2] c =
  if c this (-1) = 4 then
    zbnd (zrun zTab d 25 [this, x1] c) (fun v1 c2 =>
      if v1 = (-5) then
        some (1, c2)
      else
        if c2 this (-1) = 4 then
          zbnd (zrun zTab d 26 [this, x1] c2) (fun v3 c4 =>
            if v3 = (-5) then
              some (2, c4)
            else
              if c4 this (-1) = 4 then
                zbnd (zrun zTab d 21 [this, x1] c4) (fun v5 c6 =>
                  if v5 = 0 then
                    if c6 this (-1) = 4 then
                      if c6 this (-1) = 4 then
                        zbnd (zrun zTab d 26 [this, x1] c6) (fun v7 c8 =>
                          if c8 this (-1) = 4 then
                            if c8 (c6 this 9) (-1) = 6 then
                              zbnd (zrun zTab d 56 [c6 this 9, x1, v7, c8 this 11, x2] c8) (fun v9 c10 =>
                                some (v9, c10))
                            else none
                          else none)
                      else none
                    else none
                  else
                    some (3, c6))
              else none)
        else none)
  else none := (zrun_s zt20).trans (zf_X3_reasonInPass _ _ this x1 x2 c)
set_option maxRecDepth 100000 in
theorem zf_X3_isOnOwnPage (call : zCall) (K : zK) (this x1 : Int) (c : zC) : zseg zc_X3_isOnOwnPage zk_X3_isOnOwnPage call K 1000 0 [(2, this), (0, x1)] [] c =
  if x1 < 0 then
    some (0, c)
  else
    if c this (-1) = 4 then
      if x1 < (c this 10) then
        if c this (-1) = 4 then
          if c (c this 6) (-1) = 102 then
            if x1 < (c (c this 6) (-2)) then
              if c this (-1) = 4 then
                if c (c this 6) (-1) = 102 ∧ (0 : Int) ≤ x1 ∧ x1 < c (c this 6) (-2) then
                  if (c (c this 6) x1) = 0 then
                    some (0, c)
                  else
                    some (1, c)
                else none
              else none
            else
              some (0, c)
          else none
        else none
      else
        some (0, c)
    else none := by rfl
theorem ze_X3_isOnOwnPage (d : Nat) (this x1 : Int) (c : zC) : zrun zTab (d + 1) 21 [this, x1] c =
  if x1 < 0 then
    some (0, c)
  else
    if c this (-1) = 4 then
      if x1 < (c this 10) then
        if c this (-1) = 4 then
          if c (c this 6) (-1) = 102 then
            if x1 < (c (c this 6) (-2)) then
              if c this (-1) = 4 then
                if c (c this 6) (-1) = 102 ∧ (0 : Int) ≤ x1 ∧ x1 < c (c this 6) (-2) then
                  if (c (c this 6) x1) = 0 then
                    some (0, c)
                  else
                    some (1, c)
                else none
              else none
            else
              some (0, c)
          else none
        else none
      else
        some (0, c)
    else none := (zrun_s zt21).trans (zf_X3_isOnOwnPage _ _ this x1 c)
set_option maxRecDepth 100000 in
theorem zf_X3_basesAt (call : zCall) (K : zK) (this x1 : Int) (c : zC) : zseg zc_X3_basesAt zk_X3_basesAt call K 1000 0 [(2, this), (0, x1)] [] c =
  if x1 < 0 then
    some (0, c)
  else
    if c this (-1) = 4 then
      if x1 < (c this 10) then
        if c this (-1) = 4 then
          if c (c this 0) (-1) = 110 then
            if x1 < (c (c this 0) (-2)) then
              if c this (-1) = 4 then
                if c (c this 0) (-1) = 110 ∧ (0 : Int) ≤ x1 ∧ x1 < c (c this 0) (-2) then
                  some (c (c this 0) x1, c)
                else none
              else none
            else
              some (0, c)
          else none
        else none
      else
        some (0, c)
    else none := by rfl
theorem ze_X3_basesAt (d : Nat) (this x1 : Int) (c : zC) : zrun zTab (d + 1) 22 [this, x1] c =
  if x1 < 0 then
    some (0, c)
  else
    if c this (-1) = 4 then
      if x1 < (c this 10) then
        if c this (-1) = 4 then
          if c (c this 0) (-1) = 110 then
            if x1 < (c (c this 0) (-2)) then
              if c this (-1) = 4 then
                if c (c this 0) (-1) = 110 ∧ (0 : Int) ≤ x1 ∧ x1 < c (c this 0) (-2) then
                  some (c (c this 0) x1, c)
                else none
              else none
            else
              some (0, c)
          else none
        else none
      else
        some (0, c)
    else none := (zrun_s zt22).trans (zf_X3_basesAt _ _ this x1 c)
set_option maxRecDepth 100000 in
theorem zf_X3_baseCountAt (call : zCall) (K : zK) (this x1 : Int) (c : zC) : zseg zc_X3_baseCountAt zk_X3_baseCountAt call K 1000 0 [(2, this), (0, x1), (3, 0)] [] c =
  if c this (-1) = 4 then
    zbnd (call 22 [this, x1] c) (fun v1 c2 =>
      if v1 = 0 then
        some (0, c2)
      else
        if c2 v1 (-1) = 1 then
          some (c2 v1 2, c2)
        else none)
  else none := by rfl
theorem ze_X3_baseCountAt (d : Nat) (this x1 : Int) (c : zC) : zrun zTab (d + 1) 23 [this, x1] c =
  if c this (-1) = 4 then
    zbnd (zrun zTab d 22 [this, x1] c) (fun v1 c2 =>
      if v1 = 0 then
        some (0, c2)
      else
        if c2 v1 (-1) = 1 then
          some (c2 v1 2, c2)
        else none)
  else none := (zrun_s zt23).trans (zf_X3_baseCountAt _ _ this x1 c)
