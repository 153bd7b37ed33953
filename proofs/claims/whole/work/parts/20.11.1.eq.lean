set_option maxRecDepth 100000 in
theorem zf_X11_ofSense (call : zCall) (K : zK) (this x1 x2 : Int) (c : zC) : zseg zc_X11_ofSense zk_X11_ofSense call K 1000 0 [(2, this), (0, x1), (0, x2), (3, 0)] [] c =
  if c this (-1) = 11 then
    if c (c this 1) (-1) = 9 then
      zbnd (call 68 [c this 1, x1] c) (fun v1 c2 =>
        if v1 = 0 then
          some ((-1), c2)
        else
          if x2 < 10 then
            K 37 [(2, this), (0, x1), (0, x2), (2, v1)] [] c2
          else
            if x2 < 14 then
              if c2 this (-1) = 11 then
                zbnd (call 131 [this, x1, zsub x2 10] c2) (fun v3 c4 =>
                  some (v3, c4))
              else none
            else
              K 37 [(2, this), (0, x1), (0, x2), (2, v1)] [] c2)
    else none
  else none := by rfl
theorem ze_X11_ofSense (d : Nat) (this x1 x2 : Int) (c : zC) : zrun zTab (d + 1) 115 [this, x1, x2] c =
  if c this (-1) = 11 then
    if c (c this 1) (-1) = 9 then
      zbnd (zrun zTab d 68 [c this 1, x1] c) (fun v1 c2 =>
        if v1 = 0 then
          some ((-1), c2)
        else
          if x2 < 10 then
            zex zc_X11_ofSense zk_X11_ofSense (zrun zTab d) 19999 37 [(2, this), (0, x1), (0, x2), (2, v1)] [] c2
          else
            if x2 < 14 then
              if c2 this (-1) = 11 then
                zbnd (zrun zTab d 131 [this, x1, zsub x2 10] c2) (fun v3 c4 =>
                  some (v3, c4))
              else none
            else
              zex zc_X11_ofSense zk_X11_ofSense (zrun zTab d) 19999 37 [(2, this), (0, x1), (0, x2), (2, v1)] [] c2)
    else none
  else none := (zrun_s zt115).trans (zf_X11_ofSense _ _ this x1 x2 c)
set_option maxRecDepth 100000 in
theorem zf_X11_ofSense_37 (call : zCall) (K : zK) (this x1 x2 x3 : Int) (c : zC) : zseg zc_X11_ofSense zk_X11_ofSense call K 1000 37 [(2, this), (0, x1), (0, x2), (2, x3)] [] c =
  if x2 = 0 then
    if c x3 (-1) = 8 then
      zbnd (call 96 [c x3 0] c) (fun v1 c2 =>
        some (v1, c2))
    else none
  else
    if x2 = 1 then
      if c x3 (-1) = 8 then
        some (c x3 2, c)
      else none
    else
      if x2 = 2 then
        if c x3 (-1) = 8 then
          some (c x3 3, c)
        else none
      else
        if x2 = 3 then
          if c this (-1) = 11 then
            zbnd (call 132 [this, x1] c) (fun v3 c4 =>
              some (v3, c4))
          else none
        else
          if x2 = 4 then
            if c this (-1) = 11 then
              zbnd (call 133 [this, x1] c) (fun v5 c6 =>
                some (v5, c6))
            else none
          else
            some ((-1), c) := by rfl
theorem ze_X11_ofSense_37 (d F : Nat) (this x1 x2 x3 : Int) (c : zC) : zex zc_X11_ofSense zk_X11_ofSense (zrun zTab d) (F + 1) 37 [(2, this), (0, x1), (0, x2), (2, x3)] [] c =
  if x2 = 0 then
    if c x3 (-1) = 8 then
      zbnd (zrun zTab d 96 [c x3 0] c) (fun v1 c2 =>
        some (v1, c2))
    else none
  else
    if x2 = 1 then
      if c x3 (-1) = 8 then
        some (c x3 2, c)
      else none
    else
      if x2 = 2 then
        if c x3 (-1) = 8 then
          some (c x3 3, c)
        else none
      else
        if x2 = 3 then
          if c this (-1) = 11 then
            zbnd (zrun zTab d 132 [this, x1] c) (fun v3 c4 =>
              some (v3, c4))
          else none
        else
          if x2 = 4 then
            if c this (-1) = 11 then
              zbnd (zrun zTab d 133 [this, x1] c) (fun v5 c6 =>
                some (v5, c6))
            else none
          else
            some ((-1), c) := zf_X11_ofSense_37 _ _ this x1 x2 x3 c
set_option maxRecDepth 100000 in
theorem zf_X11_ofPage (call : zCall) (K : zK) (this x1 x2 : Int) (c : zC) : zseg zc_X11_ofPage zk_X11_ofPage call K 1000 0 [(2, this), (0, x1), (0, x2), (3, 0), (3, 0)] [] c =
  if c this (-1) = 11 then
    if c (c this 1) (-1) = 9 then
      zbnd (call 67 [c this 1, x1] c) (fun v1 c2 =>
        if c2 this (-1) = 11 then
          zbnd (call 130 [this, x1] c2) (fun v3 c4 =>
            if v1 = 0 then
              some ((-1), c4)
            else
              if v3 = 0 then
                some ((-1), c4)
              else
                if x2 < 10 then
                  K 49 [(3, 0), (3, 0), (0, x2), (2, v1), (2, v3)] [] c4
                else
                  if x2 ≤ 16 then
                    if c4 v3 (-1) = 4 then
                      zbnd (call 31 [v3, zsub x2 10] c4) (fun v5 c6 =>
                        some (v5, c6))
                    else none
                  else
                    K 49 [(3, 0), (3, 0), (0, x2), (2, v1), (2, v3)] [] c4)
        else none)
    else none
  else none := by rfl
theorem ze_X11_ofPage (d : Nat) (this x1 x2 : Int) (c : zC) : zrun zTab (d + 1) 116 [this, x1, x2] c =
  if c this (-1) = 11 then
    if c (c this 1) (-1) = 9 then
      zbnd (zrun zTab d 67 [c this 1, x1] c) (fun v1 c2 =>
        if c2 this (-1) = 11 then
          zbnd (zrun zTab d 130 [this, x1] c2) (fun v3 c4 =>
            if v1 = 0 then
              some ((-1), c4)
            else
              if v3 = 0 then
                some ((-1), c4)
              else
                if x2 < 10 then
                  zex zc_X11_ofPage zk_X11_ofPage (zrun zTab d) 19999 49 [(3, 0), (3, 0), (0, x2), (2, v1), (2, v3)] [] c4
                else
                  if x2 ≤ 16 then
                    if c4 v3 (-1) = 4 then
                      zbnd (zrun zTab d 31 [v3, zsub x2 10] c4) (fun v5 c6 =>
                        some (v5, c6))
                    else none
                  else
                    zex zc_X11_ofPage zk_X11_ofPage (zrun zTab d) 19999 49 [(3, 0), (3, 0), (0, x2), (2, v1), (2, v3)] [] c4)
        else none)
    else none
  else none := (zrun_s zt116).trans (zf_X11_ofPage _ _ this x1 x2 c)
set_option maxRecDepth 100000 in
theorem zf_X11_ofPage_49 (call : zCall) (K : zK) (x2 x3 x4 : Int) (c : zC) : zseg zc_X11_ofPage zk_X11_ofPage call K 1000 49 [(3, 0), (3, 0), (0, x2), (2, x3), (2, x4)] [] c =
  if x2 = 0 then
    if c x3 (-1) = 5 then
      some (c x3 2, c)
    else none
  else
    if x2 = 1 then
      if c x3 (-1) = 5 then
        zbnd (call 44 [x3] c) (fun v1 c2 =>
          some (v1, c2))
      else none
    else
      if x2 = 2 then
        if c x3 (-1) = 5 then
          some (c x3 3, c)
        else none
      else
        if x2 = 3 then
          if c x4 (-1) = 4 then
            zbnd (call 31 [x4, 0] c) (fun v3 c4 =>
              some (v3, c4))
          else none
        else
          if x2 = 4 then
            if c x4 (-1) = 4 then
              if c x4 (-1) = 4 then
                zbnd (call 31 [x4, 1] c) (fun v5 c6 =>
                  some (zsub (c x4 10) v5, c6))
              else none
            else none
          else
            if x2 = 5 then
              if c x4 (-1) = 4 then
                zbnd (call 37 [x4] c) (fun v7 c8 =>
                  some (v7, c8))
              else none
            else
              some ((-1), c) := by rfl
theorem ze_X11_ofPage_49 (d F : Nat) (x2 x3 x4 : Int) (c : zC) : zex zc_X11_ofPage zk_X11_ofPage (zrun zTab d) (F + 1) 49 [(3, 0), (3, 0), (0, x2), (2, x3), (2, x4)] [] c =
  if x2 = 0 then
    if c x3 (-1) = 5 then
      some (c x3 2, c)
    else none
  else
    if x2 = 1 then
      if c x3 (-1) = 5 then
        zbnd (zrun zTab d 44 [x3] c) (fun v1 c2 =>
          some (v1, c2))
      else none
    else
      if x2 = 2 then
        if c x3 (-1) = 5 then
          some (c x3 3, c)
        else none
      else
        if x2 = 3 then
          if c x4 (-1) = 4 then
            zbnd (zrun zTab d 31 [x4, 0] c) (fun v3 c4 =>
              some (v3, c4))
          else none
        else
          if x2 = 4 then
            if c x4 (-1) = 4 then
              if c x4 (-1) = 4 then
                zbnd (zrun zTab d 31 [x4, 1] c) (fun v5 c6 =>
                  some (zsub (c x4 10) v5, c6))
              else none
            else none
          else
            if x2 = 5 then
              if c x4 (-1) = 4 then
                zbnd (zrun zTab d 37 [x4] c) (fun v7 c8 =>
                  some (v7, c8))
              else none
            else
              some ((-1), c) := zf_X11_ofPage_49 _ _ x2 x3 x4 c
set_option maxRecDepth 100000 in
theorem zf_X11_link (call : zCall) (K : zK) (this x1 x2 : Int) (c : zC) : zseg zc_X11_link zk_X11_link call K 1000 0 [(2, this), (0, x1), (0, x2), (3, 0)] [] c =
  if c this (-1) = 11 then
    zbnd (call 130 [this, x1] c) (fun v1 c2 =>
      if v1 = 0 then
        some ((-1), c2)
      else
        if x2 < 0 then
          some ((-1), c2)
        else
          if c2 v1 (-1) = 4 then
            zbnd (call 35 [v1, x2] c2) (fun v3 c4 =>
              some (v3, c4))
          else none)
  else none := by rfl
theorem ze_X11_link (d : Nat) (this x1 x2 : Int) (c : zC) : zrun zTab (d + 1) 117 [this, x1, x2] c =
  if c this (-1) = 11 then
    zbnd (zrun zTab d 130 [this, x1] c) (fun v1 c2 =>
      if v1 = 0 then
        some ((-1), c2)
      else
        if x2 < 0 then
          some ((-1), c2)
        else
          if c2 v1 (-1) = 4 then
            zbnd (zrun zTab d 35 [v1, x2] c2) (fun v3 c4 =>
              some (v3, c4))
          else none)
  else none := (zrun_s zt117).trans (zf_X11_link _ _ this x1 x2 c)
set_option maxRecDepth 100000 in
theorem zf_X11_without (call : zCall) (K : zK) (this x1 x2 : Int) (c : zC) : zseg zc_X11_without zk_X11_without call K 1000 0 [(2, this), (0, x1), (0, x2), (3, 0), (3, 0)] [] c =
  if c this (-1) = 11 then
    zbnd (call 130 [this, x1] c) (fun v1 c2 =>
      if v1 = 0 then
        if v1 = 0 then
          some ((-1), c2)
        else
          some ((-1), c2)
      else
        if c2 v1 (-1) = 4 then
          zbnd (call 35 [v1, x2] c2) (fun v3 c4 =>
            if v1 = 0 then
              some ((-1), c4)
            else
              if v3 = (-5) then
                some ((-1), c4)
              else
                if c4 v1 (-1) = 4 then
                  zbnd (call 38 [v1, v3] c4) (fun v5 c6 =>
                    some (v5, c6))
                else none)
        else none)
  else none := by rfl
theorem ze_X11_without (d : Nat) (this x1 x2 : Int) (c : zC) : zrun zTab (d + 1) 118 [this, x1, x2] c =
  if c this (-1) = 11 then
    zbnd (zrun zTab d 130 [this, x1] c) (fun v1 c2 =>
      if v1 = 0 then
        if v1 = 0 then
          some ((-1), c2)
        else
          some ((-1), c2)
      else
        if c2 v1 (-1) = 4 then
          zbnd (zrun zTab d 35 [v1, x2] c2) (fun v3 c4 =>
            if v1 = 0 then
              some ((-1), c4)
            else
              if v3 = (-5) then
                some ((-1), c4)
              else
                if c4 v1 (-1) = 4 then
                  zbnd (zrun zTab d 38 [v1, v3] c4) (fun v5 c6 =>
                    some (v5, c6))
                else none)
        else none)
  else none := (zrun_s zt118).trans (zf_X11_without _ _ this x1 x2 c)
set_option maxRecDepth 100000 in
theorem zf_X11_again (call : zCall) (K : zK) (this x1 : Int) (c : zC) : zseg zc_X11_again zk_X11_again call K 1000 0 [(2, this), (0, x1), (3, 0)] [] c =
  if c this (-1) = 11 then
    zbnd (call 130 [this, x1] c) (fun v1 c2 =>
      if v1 = 0 then
        some ((-1), c2)
      else
        if c2 v1 (-1) = 4 then
          zbnd (call 39 [v1] c2) (fun v3 c4 =>
            some (v3, c4))
        else none)
  else none := by rfl
theorem ze_X11_again (d : Nat) (this x1 : Int) (c : zC) : zrun zTab (d + 1) 119 [this, x1] c =
  if c this (-1) = 11 then
    zbnd (zrun zTab d 130 [this, x1] c) (fun v1 c2 =>
      if v1 = 0 then
        some ((-1), c2)
      else
        if c2 v1 (-1) = 4 then
          zbnd (zrun zTab d 39 [v1] c2) (fun v3 c4 =>
            some (v3, c4))
        else none)
  else none := (zrun_s zt119).trans (zf_X11_again _ _ this x1 c)
set_option maxRecDepth 100000 in
theorem zf_X11_back (call : zCall) (K : zK) (this : Int) (c : zC) : zseg zc_X11_back zk_X11_back call K 1000 0 [(2, this)] [] c =
  if c this (-1) = 11 then
    if c (c this 4) (-1) = 3 then
      if (c (c this 4) 1) < 1 then
        some ((-3), c)
      else
        if c this (-1) = 11 then
          if c this (-1) = 11 then
            if c (c this 4) (-1) = 3 then
              zbnd (call 13 [c this 4, c this 1] c) (fun _ c2 =>
                if c2 this (-1) = 11 then
                  zbnd (call 129 [this] c2) (fun _ c4 =>
                    if c4 this (-1) = 11 then
                      if c4 (c4 this 4) (-1) = 3 then
                        some (c4 (c4 this 4) 1, c4)
                      else none
                    else none)
                else none)
            else none
          else none
        else none
    else none
  else none := by rfl
theorem ze_X11_back (d : Nat) (this : Int) (c : zC) : zrun zTab (d + 1) 120 [this] c =
  if c this (-1) = 11 then
    if c (c this 4) (-1) = 3 then
      if (c (c this 4) 1) < 1 then
        some ((-3), c)
      else
        if c this (-1) = 11 then
          if c this (-1) = 11 then
            if c (c this 4) (-1) = 3 then
              zbnd (zrun zTab d 13 [c this 4, c this 1] c) (fun _ c2 =>
                if c2 this (-1) = 11 then
                  zbnd (zrun zTab d 129 [this] c2) (fun _ c4 =>
                    if c4 this (-1) = 11 then
                      if c4 (c4 this 4) (-1) = 3 then
                        some (c4 (c4 this 4) 1, c4)
                      else none
                    else none)
                else none)
            else none
          else none
        else none
    else none
  else none := (zrun_s zt120).trans (zf_X11_back _ _ this c)
set_option maxRecDepth 100000 in
theorem zf_X11_image (call : zCall) (K : zK) (this : Int) (c : zC) : zseg zc_X11_image zk_X11_image call K 1000 0 [(2, this)] [] c =
  if c this (-1) = 11 then
    if c this (-1) = 11 then
      if c (c this 2) (-1) = 9 then
        zbnd (call 75 [c this 2, c this 1] c) (fun _ c2 =>
          if c2 this (-1) = 11 then
            if (zup c2 this 3 1) this (-1) = 11 then
              if (zup c2 this 3 1) ((zup c2 this 3 1) this 1) (-1) = 9 then
                some ((zup c2 this 3 1) ((zup c2 this 3 1) this 1) 3, zup c2 this 3 1)
              else none
            else none
          else none)
      else none
    else none
  else none := by rfl
theorem ze_X11_image (d : Nat) (this : Int) (c : zC) : zrun zTab (d + 1) 121 [this] c =
  if c this (-1) = 11 then
    if c this (-1) = 11 then
      if c (c this 2) (-1) = 9 then
        zbnd (zrun zTab d 75 [c this 2, c this 1] c) (fun _ c2 =>
          if c2 this (-1) = 11 then
            if (zup c2 this 3 1) this (-1) = 11 then
              if (zup c2 this 3 1) ((zup c2 this 3 1) this 1) (-1) = 9 then
                some ((zup c2 this 3 1) ((zup c2 this 3 1) this 1) 3, zup c2 this 3 1)
              else none
            else none
          else none)
      else none
    else none
  else none := (zrun_s zt121).trans (zf_X11_image _ _ this c)
set_option maxRecDepth 100000 in
theorem zf_X11_undo (call : zCall) (K : zK) (this : Int) (c : zC) : zseg zc_X11_undo zk_X11_undo call K 1000 0 [(2, this)] [] c =
  if c this (-1) = 11 then
    if (c this 3) = 0 then
      some ((-3), c)
    else
      if c this (-1) = 11 then
        if c this (-1) = 11 then
          if c (c this 1) (-1) = 9 then
            zbnd (call 75 [c this 1, c this 2] c) (fun _ c2 =>
              if c2 this (-1) = 11 then
                if c2 (c2 this 4) (-1) = 3 then
                  if (zup c2 (c2 this 4) 1 0) this (-1) = 11 then
                    zbnd (call 129 [this] (zup c2 (c2 this 4) 1 0)) (fun _ c4 =>
                      if c4 this (-1) = 11 then
                        if c4 (c4 this 1) (-1) = 9 then
                          some (c4 (c4 this 1) 3, c4)
                        else none
                      else none)
                  else none
                else none
              else none)
          else none
        else none
      else none
  else none := by rfl
theorem ze_X11_undo (d : Nat) (this : Int) (c : zC) : zrun zTab (d + 1) 122 [this] c =
  if c this (-1) = 11 then
    if (c this 3) = 0 then
      some ((-3), c)
    else
      if c this (-1) = 11 then
        if c this (-1) = 11 then
          if c (c this 1) (-1) = 9 then
            zbnd (zrun zTab d 75 [c this 1, c this 2] c) (fun _ c2 =>
              if c2 this (-1) = 11 then
                if c2 (c2 this 4) (-1) = 3 then
                  if (zup c2 (c2 this 4) 1 0) this (-1) = 11 then
                    zbnd (zrun zTab d 129 [this] (zup c2 (c2 this 4) 1 0)) (fun _ c4 =>
                      if c4 this (-1) = 11 then
                        if c4 (c4 this 1) (-1) = 9 then
                          some (c4 (c4 this 1) 3, c4)
                        else none
                      else none)
                  else none
                else none
              else none)
          else none
        else none
      else none
  else none := (zrun_s zt122).trans (zf_X11_undo _ _ this c)
set_option maxRecDepth 100000 in
theorem zf_X11_count (call : zCall) (K : zK) (this x1 : Int) (c : zC) : zseg zc_X11_count zk_X11_count call K 1000 0 [(2, this), (0, x1)] [] c =
  if x1 = 0 then
    if c this (-1) = 11 then
      if c (c this 1) (-1) = 9 then
        some (c (c this 1) 3, c)
      else none
    else none
  else
    if x1 = 1 then
      if c this (-1) = 11 then
        if c (c this 1) (-1) = 9 then
          some (c (c this 1) 4, c)
        else none
      else none
    else
      if x1 = 2 then
        if c this (-1) = 11 then
          if c (c this 0) (-1) = 10 then
            some (c (c this 0) 1, c)
          else none
        else none
      else
        if x1 = 3 then
          if c this (-1) = 11 then
            if c (c this 4) (-1) = 3 then
              some (c (c this 4) 1, c)
            else none
          else none
        else
          if x1 = 4 then
            if c this (-1) = 11 then
              if c (c this 1) (-1) = 9 then
                some (c (c this 1) 5, c)
              else none
            else none
          else
            if x1 = 5 then
              if c this (-1) = 11 then
                if c (c this 1) (-1) = 9 then
                  some (c (c this 1) 6, c)
                else none
              else none
            else
              if x1 = 6 then
                if c this (-1) = 11 then
                  zbnd (call 134 [this] c) (fun v1 c2 =>
                    some (v1, c2))
                else none
              else
                if x1 = 7 then
                  if c this (-1) = 11 then
                    zbnd (call 135 [this] c) (fun v3 c4 =>
                      some (v3, c4))
                  else none
                else
                  if x1 = 8 then
                    if c this (-1) = 11 then
                      zbnd (call 136 [this] c) (fun v5 c6 =>
                        some (v5, c6))
                    else none
                  else
                    some ((-1), c) := by rfl
theorem ze_X11_count (d : Nat) (this x1 : Int) (c : zC) : zrun zTab (d + 1) 123 [this, x1] c =
  if x1 = 0 then
    if c this (-1) = 11 then
      if c (c this 1) (-1) = 9 then
        some (c (c this 1) 3, c)
      else none
    else none
  else
    if x1 = 1 then
      if c this (-1) = 11 then
        if c (c this 1) (-1) = 9 then
          some (c (c this 1) 4, c)
        else none
      else none
    else
      if x1 = 2 then
        if c this (-1) = 11 then
          if c (c this 0) (-1) = 10 then
            some (c (c this 0) 1, c)
          else none
        else none
      else
        if x1 = 3 then
          if c this (-1) = 11 then
            if c (c this 4) (-1) = 3 then
              some (c (c this 4) 1, c)
            else none
          else none
        else
          if x1 = 4 then
            if c this (-1) = 11 then
              if c (c this 1) (-1) = 9 then
                some (c (c this 1) 5, c)
              else none
            else none
          else
            if x1 = 5 then
              if c this (-1) = 11 then
                if c (c this 1) (-1) = 9 then
                  some (c (c this 1) 6, c)
                else none
              else none
            else
              if x1 = 6 then
                if c this (-1) = 11 then
                  zbnd (zrun zTab d 134 [this] c) (fun v1 c2 =>
                    some (v1, c2))
                else none
              else
                if x1 = 7 then
                  if c this (-1) = 11 then
                    zbnd (zrun zTab d 135 [this] c) (fun v3 c4 =>
                      some (v3, c4))
                  else none
                else
                  if x1 = 8 then
                    if c this (-1) = 11 then
                      zbnd (zrun zTab d 136 [this] c) (fun v5 c6 =>
                        some (v5, c6))
                    else none
                  else
                    some ((-1), c) := (zrun_s zt123).trans (zf_X11_count _ _ this x1 c)
set_option maxRecDepth 100000 in
theorem zf_X11_isByte (call : zCall) (K : zK) (x0 : Int) (c : zC) : zseg zc_X11_isByte zk_X11_isByte call K 1000 0 [(0, x0)] [] c =
  if x0 < 0 then
    some (0, c)
  else
    if x0 ≤ 127 then
      some (1, c)
    else
      some (0, c) := by rfl
theorem ze_X11_isByte (d : Nat) (x0 : Int) (c : zC) : zrun zTab (d + 1) 124 [x0] c =
  if x0 < 0 then
    some (0, c)
  else
    if x0 ≤ 127 then
      some (1, c)
    else
      some (0, c) := (zrun_s zt124).trans (zf_X11_isByte _ _ x0 c)
set_option maxRecDepth 100000 in
theorem zf_X11_letterOrLength (call : zCall) (K : zK) (x0 x2 : Int) (c : zC) : zseg zc_X11_letterOrLength zk_X11_letterOrLength call K 1000 0 [(1, x0), (3, 0), (0, x2), (3, 0)] [] c =
  zbnd (call 96 [x0] c) (fun v1 c2 =>
    if x2 = (-1) then
      some (v1, c2)
    else
      if x2 < 0 then
        some ((-5), c2)
      else
        if x2 < v1 then
          zbnd (call 97 [x0, x2, v1] c2) (fun v3 c4 =>
            some (v3, c4))
        else
          some ((-5), c2)) := by rfl
theorem ze_X11_letterOrLength (d : Nat) (x0 x2 : Int) (c : zC) : zrun zTab (d + 1) 125 [x0, x2] c =
  zbnd (zrun zTab d 96 [x0] c) (fun v1 c2 =>
    if x2 = (-1) then
      some (v1, c2)
    else
      if x2 < 0 then
        some ((-5), c2)
      else
        if x2 < v1 then
          zbnd (zrun zTab d 97 [x0, x2, v1] c2) (fun v3 c4 =>
            some (v3, c4))
        else
          some ((-5), c2)) := (zrun_s zt125).trans (zf_X11_letterOrLength _ _ x0 x2 c)
set_option maxRecDepth 100000 in
theorem zf_X11_startChange (call : zCall) (K : zK) (this : Int) (c : zC) : zseg zc_X11_startChange zk_X11_startChange call K 1000 0 [(2, this)] [] c =
  if c this (-1) = 11 then
    if c this (-1) = 11 then
      if c (c this 4) (-1) = 3 then
        zbnd (call 11 [c this 4, c this 1] c) (fun _ c2 =>
          if c2 this (-1) = 11 then
            zbnd (call 129 [this] c2) (fun _ c4 =>
              some (0, c4))
          else none)
      else none
    else none
  else none := by rfl
theorem ze_X11_startChange (d : Nat) (this : Int) (c : zC) : zrun zTab (d + 1) 126 [this] c =
  if c this (-1) = 11 then
    if c this (-1) = 11 then
      if c (c this 4) (-1) = 3 then
        zbnd (zrun zTab d 11 [c this 4, c this 1] c) (fun _ c2 =>
          if c2 this (-1) = 11 then
            zbnd (zrun zTab d 129 [this] c2) (fun _ c4 =>
              some (0, c4))
          else none)
      else none
    else none
  else none := (zrun_s zt126).trans (zf_X11_startChange _ _ this c)
set_option maxRecDepth 100000 in
theorem zf_X11_startEdit (call : zCall) (K : zK) (this x1 : Int) (c : zC) : zseg zc_X11_startEdit zk_X11_startEdit call K 1000 0 [(2, this), (0, x1), (3, 0)] [] c =
  if c this (-1) = 11 then
    zbnd (call 130 [this, x1] c) (fun v1 c2 =>
      if v1 = 0 then
        if c2 this (-1) = 11 then
          zbnd (call 126 [this] c2) (fun _ c4 =>
            some (0, c4))
        else none
      else
        if c2 this (-1) = 11 then
          if c2 (c2 this 6) (-1) = 2 then
            if c2 v1 (-1) = 4 then
              zbnd (call 36 [v1, c2 (c2 this 6) 0] c2) (fun _ c6 =>
                if c6 this (-1) = 11 then
                  zbnd (call 126 [this] c6) (fun _ c8 =>
                    some (0, c8))
                else none)
            else none
          else none
        else none)
  else none := by rfl
theorem ze_X11_startEdit (d : Nat) (this x1 : Int) (c : zC) : zrun zTab (d + 1) 127 [this, x1] c =
  if c this (-1) = 11 then
    zbnd (zrun zTab d 130 [this, x1] c) (fun v1 c2 =>
      if v1 = 0 then
        if c2 this (-1) = 11 then
          zbnd (zrun zTab d 126 [this] c2) (fun _ c4 =>
            some (0, c4))
        else none
      else
        if c2 this (-1) = 11 then
          if c2 (c2 this 6) (-1) = 2 then
            if c2 v1 (-1) = 4 then
              zbnd (zrun zTab d 36 [v1, c2 (c2 this 6) 0] c2) (fun _ c6 =>
                if c6 this (-1) = 11 then
                  zbnd (zrun zTab d 126 [this] c6) (fun _ c8 =>
                    some (0, c8))
                else none)
            else none
          else none
        else none)
  else none := (zrun_s zt127).trans (zf_X11_startEdit _ _ this x1 c)
set_option maxRecDepth 100000 in
theorem zf_X11_endEdit (call : zCall) (K : zK) (this x1 x2 x3 x4 : Int) (c : zC) : zseg zc_X11_endEdit zk_X11_endEdit call K 1000 0 [(2, this), (0, x1), (0, x2), (0, x3), (0, x4), (3, 0)] [] c =
  if c this (-1) = 11 then
    zbnd (call 130 [this, x1] c) (fun v1 c2 =>
      if v1 = 0 then
        if c2 this (-1) = 11 then
          if c2 (c2 this 6) (-1) = 2 then
            zbnd (call 7 [c2 this 6, x2, x3, x4] c2) (fun _ c4 =>
              some (0, c4))
          else none
        else none
      else
        if c2 this (-1) = 11 then
          if c2 (c2 this 6) (-1) = 2 then
            if c2 v1 (-1) = 4 then
              zbnd (call 36 [v1, c2 (c2 this 6) 1] c2) (fun _ c6 =>
                if c6 this (-1) = 11 then
                  if c6 (c6 this 6) (-1) = 2 then
                    zbnd (call 7 [c6 this 6, x2, x3, x4] c6) (fun _ c8 =>
                      some (0, c8))
                  else none
                else none)
            else none
          else none
        else none)
  else none := by rfl
theorem ze_X11_endEdit (d : Nat) (this x1 x2 x3 x4 : Int) (c : zC) : zrun zTab (d + 1) 128 [this, x1, x2, x3, x4] c =
  if c this (-1) = 11 then
    zbnd (zrun zTab d 130 [this, x1] c) (fun v1 c2 =>
      if v1 = 0 then
        if c2 this (-1) = 11 then
          if c2 (c2 this 6) (-1) = 2 then
            zbnd (zrun zTab d 7 [c2 this 6, x2, x3, x4] c2) (fun _ c4 =>
              some (0, c4))
          else none
        else none
      else
        if c2 this (-1) = 11 then
          if c2 (c2 this 6) (-1) = 2 then
            if c2 v1 (-1) = 4 then
              zbnd (zrun zTab d 36 [v1, c2 (c2 this 6) 1] c2) (fun _ c6 =>
                if c6 this (-1) = 11 then
                  if c6 (c6 this 6) (-1) = 2 then
                    zbnd (zrun zTab d 7 [c6 this 6, x2, x3, x4] c6) (fun _ c8 =>
                      some (0, c8))
                  else none
                else none)
            else none
          else none
        else none)
  else none := (zrun_s zt128).trans (zf_X11_endEdit _ _ this x1 x2 x3 x4 c)
set_option maxRecDepth 100000 in
theorem zf_X11_forgetLinks (call : zCall) (K : zK) (this : Int) (c : zC) : zseg zc_X11_forgetLinks zk_X11_forgetLinks call K 1000 0 [(2, this), (3, 0), (3, 0)] [] c =
  K 2 [(2, this), (0, 0), (3, 0)] [] c := by rfl
theorem ze_X11_forgetLinks (d : Nat) (this : Int) (c : zC) : zrun zTab (d + 1) 129 [this] c =
  zex zc_X11_forgetLinks zk_X11_forgetLinks (zrun zTab d) 19999 2 [(2, this), (0, 0), (3, 0)] [] c := (zrun_s zt129).trans (zf_X11_forgetLinks _ _ this c)
set_option maxRecDepth 100000 in
theorem zf_X11_forgetLinks_2 (call : zCall) (K : zK) (this x1 : Int) (c : zC) : zseg zc_X11_forgetLinks zk_X11_forgetLinks call K 1000 2 [(2, this), (0, x1), (3, 0)] [] c =
  if c this (-1) = 11 then
    if c (c this 5) (-1) = 113 then
      if x1 < (c (c this 5) (-2)) then
        if c this (-1) = 11 then
          if c (c this 5) (-1) = 113 ∧ (0 : Int) ≤ x1 ∧ x1 < c (c this 5) (-2) then
            if (c (c this 5) x1) = 0 then
              K 2 [(2, this), (0, zw (x1 + 1)), (3, 0)] [] c
            else
              if c (c (c this 5) x1) (-1) = 4 then
                K 2 [(2, this), (0, zw (x1 + 1)), (3, 0)] [] (zup c (c (c this 5) x1) 13 0)
              else none
          else none
        else none
      else
        some (0, c)
    else none
  else none := by rfl
theorem ze_X11_forgetLinks_2 (d F : Nat) (this x1 : Int) (c : zC) : zex zc_X11_forgetLinks zk_X11_forgetLinks (zrun zTab d) (F + 1) 2 [(2, this), (0, x1), (3, 0)] [] c =
  if c this (-1) = 11 then
    if c (c this 5) (-1) = 113 then
      if x1 < (c (c this 5) (-2)) then
        if c this (-1) = 11 then
          if c (c this 5) (-1) = 113 ∧ (0 : Int) ≤ x1 ∧ x1 < c (c this 5) (-2) then
            if (c (c this 5) x1) = 0 then
              zex zc_X11_forgetLinks zk_X11_forgetLinks (zrun zTab d) F 2 [(2, this), (0, zw (x1 + 1)), (3, 0)] [] c
            else
              if c (c (c this 5) x1) (-1) = 4 then
                zex zc_X11_forgetLinks zk_X11_forgetLinks (zrun zTab d) F 2 [(2, this), (0, zw (x1 + 1)), (3, 0)] [] (zup c (c (c this 5) x1) 13 0)
              else none
          else none
        else none
      else
        some (0, c)
    else none
  else none := zf_X11_forgetLinks_2 _ _ this x1 c
set_option maxRecDepth 100000 in
theorem zf_X11_linkingOf (call : zCall) (K : zK) (this x1 : Int) (c : zC) : zseg zc_X11_linkingOf zk_X11_linkingOf call K 1000 0 [(2, this), (0, x1), (3, 0)] [] c =
  if x1 < 0 then
    K 22 [(2, this), (0, x1), (3, 0)] [] c
  else
    if c this (-1) = 11 then
      if c (c this 5) (-1) = 113 then
        if x1 < (c (c this 5) (-2)) then
          if c this (-1) = 11 then
            if c (c this 5) (-1) = 113 ∧ (0 : Int) ≤ x1 ∧ x1 < c (c this 5) (-2) then
              if (c (c this 5) x1) = 0 then
                some (c (c this 5) x1, c)
              else
                if c (c (c this 5) x1) (-1) = 4 then
                  if (c (c (c this 5) x1) 13) = 0 then
                    if c this (-1) = 11 then
                      if c (c (c this 5) x1) (-1) = 4 then
                        zbnd (call 15 [c (c this 5) x1, c this 1, x1] c) (fun _ c2 =>
                          some (c (c this 5) x1, c2))
                      else none
                    else none
                  else
                    some (c (c this 5) x1, c)
                else none
            else none
          else none
        else
          K 22 [(2, this), (0, x1), (3, 0)] [] c
      else none
    else none := by rfl
theorem ze_X11_linkingOf (d : Nat) (this x1 : Int) (c : zC) : zrun zTab (d + 1) 130 [this, x1] c =
  if x1 < 0 then
    zex zc_X11_linkingOf zk_X11_linkingOf (zrun zTab d) 19999 22 [(2, this), (0, x1), (3, 0)] [] c
  else
    if c this (-1) = 11 then
      if c (c this 5) (-1) = 113 then
        if x1 < (c (c this 5) (-2)) then
          if c this (-1) = 11 then
            if c (c this 5) (-1) = 113 ∧ (0 : Int) ≤ x1 ∧ x1 < c (c this 5) (-2) then
              if (c (c this 5) x1) = 0 then
                some (c (c this 5) x1, c)
              else
                if c (c (c this 5) x1) (-1) = 4 then
                  if (c (c (c this 5) x1) 13) = 0 then
                    if c this (-1) = 11 then
                      if c (c (c this 5) x1) (-1) = 4 then
                        zbnd (zrun zTab d 15 [c (c this 5) x1, c this 1, x1] c) (fun _ c2 =>
                          some (c (c this 5) x1, c2))
                      else none
                    else none
                  else
                    some (c (c this 5) x1, c)
                else none
            else none
          else none
        else
          zex zc_X11_linkingOf zk_X11_linkingOf (zrun zTab d) 19999 22 [(2, this), (0, x1), (3, 0)] [] c
      else none
    else none := (zrun_s zt130).trans (zf_X11_linkingOf _ _ this x1 c)
set_option maxRecDepth 100000 in
theorem zf_X11_linkingOf_22 (call : zCall) (K : zK) (this x1 : Int) (c : zC) : zseg zc_X11_linkingOf zk_X11_linkingOf call K 1000 22 [(2, this), (0, x1), (3, 0)] [] c =
  if 0 = 0 then
    some (0, c)
  else
    if c 0 (-1) = 4 then
      if (c 0 13) = 0 then
        if c this (-1) = 11 then
          if c 0 (-1) = 4 then
            zbnd (call 15 [0, c this 1, x1] c) (fun _ c2 =>
              some (0, c2))
          else none
        else none
      else
        some (0, c)
    else none := by rfl
theorem ze_X11_linkingOf_22 (d F : Nat) (this x1 : Int) (c : zC) : zex zc_X11_linkingOf zk_X11_linkingOf (zrun zTab d) (F + 1) 22 [(2, this), (0, x1), (3, 0)] [] c =
  if 0 = 0 then
    some (0, c)
  else
    if c 0 (-1) = 4 then
      if (c 0 13) = 0 then
        if c this (-1) = 11 then
          if c 0 (-1) = 4 then
            zbnd (zrun zTab d 15 [0, c this 1, x1] c) (fun _ c2 =>
              some (0, c2))
          else none
        else none
      else
        some (0, c)
    else none := zf_X11_linkingOf_22 _ _ this x1 c
set_option maxRecDepth 100000 in
theorem zf_X11_linkedOnPage (call : zCall) (K : zK) (this x1 x2 : Int) (c : zC) : zseg zc_X11_linkedOnPage zk_X11_linkedOnPage call K 1000 0 [(2, this), (0, x1), (0, x2), (3, 0)] [] c =
  if c this (-1) = 11 then
    zbnd (call 130 [this, x2] c) (fun v1 c2 =>
      if v1 = 0 then
        some (0, c2)
      else
        if c2 v1 (-1) = 4 then
          zbnd (call 32 [v1, x1] c2) (fun v3 c4 =>
            some (v3, c4))
        else none)
  else none := by rfl
theorem ze_X11_linkedOnPage (d : Nat) (this x1 x2 : Int) (c : zC) : zrun zTab (d + 1) 131 [this, x1, x2] c =
  if c this (-1) = 11 then
    zbnd (zrun zTab d 130 [this, x2] c) (fun v1 c2 =>
      if v1 = 0 then
        some (0, c2)
      else
        if c2 v1 (-1) = 4 then
          zbnd (zrun zTab d 32 [v1, x1] c2) (fun v3 c4 =>
            some (v3, c4))
        else none)
  else none := (zrun_s zt131).trans (zf_X11_linkedOnPage _ _ this x1 x2 c)
set_option maxRecDepth 100000 in
theorem zf_X11_linkedOnAllPages (call : zCall) (K : zK) (this x1 : Int) (c : zC) : zseg zc_X11_linkedOnAllPages zk_X11_linkedOnAllPages call K 1000 0 [(2, this), (0, x1), (3, 0), (3, 0), (3, 0)] [] c =
  K 4 [(2, this), (0, x1), (0, 0), (0, 0), (3, 0)] [] c := by rfl
theorem ze_X11_linkedOnAllPages (d : Nat) (this x1 : Int) (c : zC) : zrun zTab (d + 1) 132 [this, x1] c =
  zex zc_X11_linkedOnAllPages zk_X11_linkedOnAllPages (zrun zTab d) 19999 4 [(2, this), (0, x1), (0, 0), (0, 0), (3, 0)] [] c := (zrun_s zt132).trans (zf_X11_linkedOnAllPages _ _ this x1 c)
set_option maxRecDepth 100000 in
theorem zf_X11_linkedOnAllPages_4 (call : zCall) (K : zK) (this x1 x2 x3 : Int) (c : zC) : zseg zc_X11_linkedOnAllPages zk_X11_linkedOnAllPages call K 1000 4 [(2, this), (0, x1), (0, x2), (0, x3), (3, 0)] [] c =
  if x3 < 4 then
    if c this (-1) = 11 then
      zbnd (call 130 [this, x3] c) (fun v1 c2 =>
        if v1 = 0 then
          K 4 [(2, this), (0, x1), (0, zadd x2 0), (0, zw (x3 + 1)), (3, 0)] [] c2
        else
          if c2 v1 (-1) = 4 then
            zbnd (call 32 [v1, x1] c2) (fun v3 c4 =>
              K 4 [(2, this), (0, x1), (0, zadd x2 v3), (0, zw (x3 + 1)), (3, 0)] [] c4)
          else none)
    else none
  else
    some (x2, c) := by rfl
theorem ze_X11_linkedOnAllPages_4 (d F : Nat) (this x1 x2 x3 : Int) (c : zC) : zex zc_X11_linkedOnAllPages zk_X11_linkedOnAllPages (zrun zTab d) (F + 1) 4 [(2, this), (0, x1), (0, x2), (0, x3), (3, 0)] [] c =
  if x3 < 4 then
    if c this (-1) = 11 then
      zbnd (zrun zTab d 130 [this, x3] c) (fun v1 c2 =>
        if v1 = 0 then
          zex zc_X11_linkedOnAllPages zk_X11_linkedOnAllPages (zrun zTab d) F 4 [(2, this), (0, x1), (0, zadd x2 0), (0, zw (x3 + 1)), (3, 0)] [] c2
        else
          if c2 v1 (-1) = 4 then
            zbnd (zrun zTab d 32 [v1, x1] c2) (fun v3 c4 =>
              zex zc_X11_linkedOnAllPages zk_X11_linkedOnAllPages (zrun zTab d) F 4 [(2, this), (0, x1), (0, zadd x2 v3), (0, zw (x3 + 1)), (3, 0)] [] c4)
          else none)
    else none
  else
    some (x2, c) := zf_X11_linkedOnAllPages_4 _ _ this x1 x2 x3 c
set_option maxRecDepth 100000 in
theorem zf_X11_meantOnAllPages (call : zCall) (K : zK) (this x1 : Int) (c : zC) : zseg zc_X11_meantOnAllPages zk_X11_meantOnAllPages call K 1000 0 [(2, this), (0, x1), (3, 0), (3, 0), (3, 0)] [] c =
  K 4 [(2, this), (0, x1), (0, 0), (0, 0), (3, 0)] [] c := by rfl
theorem ze_X11_meantOnAllPages (d : Nat) (this x1 : Int) (c : zC) : zrun zTab (d + 1) 133 [this, x1] c =
  zex zc_X11_meantOnAllPages zk_X11_meantOnAllPages (zrun zTab d) 19999 4 [(2, this), (0, x1), (0, 0), (0, 0), (3, 0)] [] c := (zrun_s zt133).trans (zf_X11_meantOnAllPages _ _ this x1 c)
set_option maxRecDepth 100000 in
theorem zf_X11_meantOnAllPages_4 (call : zCall) (K : zK) (this x1 x2 x3 : Int) (c : zC) : zseg zc_X11_meantOnAllPages zk_X11_meantOnAllPages call K 1000 4 [(2, this), (0, x1), (0, x2), (0, x3), (3, 0)] [] c =
  if x3 < 4 then
    if c this (-1) = 11 then
      zbnd (call 130 [this, x3] c) (fun v1 c2 =>
        if v1 = 0 then
          K 4 [(2, this), (0, x1), (0, zadd x2 0), (0, zw (x3 + 1)), (3, 0)] [] c2
        else
          if c2 v1 (-1) = 4 then
            zbnd (call 34 [v1, x1] c2) (fun v3 c4 =>
              K 4 [(2, this), (0, x1), (0, zadd x2 v3), (0, zw (x3 + 1)), (3, 0)] [] c4)
          else none)
    else none
  else
    some (x2, c) := by rfl
theorem ze_X11_meantOnAllPages_4 (d F : Nat) (this x1 x2 x3 : Int) (c : zC) : zex zc_X11_meantOnAllPages zk_X11_meantOnAllPages (zrun zTab d) (F + 1) 4 [(2, this), (0, x1), (0, x2), (0, x3), (3, 0)] [] c =
  if x3 < 4 then
    if c this (-1) = 11 then
      zbnd (zrun zTab d 130 [this, x3] c) (fun v1 c2 =>
        if v1 = 0 then
          zex zc_X11_meantOnAllPages zk_X11_meantOnAllPages (zrun zTab d) F 4 [(2, this), (0, x1), (0, zadd x2 0), (0, zw (x3 + 1)), (3, 0)] [] c2
        else
          if c2 v1 (-1) = 4 then
            zbnd (zrun zTab d 34 [v1, x1] c2) (fun v3 c4 =>
              zex zc_X11_meantOnAllPages zk_X11_meantOnAllPages (zrun zTab d) F 4 [(2, this), (0, x1), (0, zadd x2 v3), (0, zw (x3 + 1)), (3, 0)] [] c4)
          else none)
    else none
  else
    some (x2, c) := zf_X11_meantOnAllPages_4 _ _ this x1 x2 x3 c
set_option maxRecDepth 100000 in
theorem zf_X11_wordsOfAllPages (call : zCall) (K : zK) (this : Int) (c : zC) : zseg zc_X11_wordsOfAllPages zk_X11_wordsOfAllPages call K 1000 0 [(2, this), (3, 0), (3, 0), (3, 0)] [] c =
  K 4 [(2, this), (0, 0), (0, 0), (3, 0)] [] c := by rfl
theorem ze_X11_wordsOfAllPages (d : Nat) (this : Int) (c : zC) : zrun zTab (d + 1) 134 [this] c =
  zex zc_X11_wordsOfAllPages zk_X11_wordsOfAllPages (zrun zTab d) 19999 4 [(2, this), (0, 0), (0, 0), (3, 0)] [] c := (zrun_s zt134).trans (zf_X11_wordsOfAllPages _ _ this c)
set_option maxRecDepth 100000 in
theorem zf_X11_wordsOfAllPages_4 (call : zCall) (K : zK) (this x1 x2 : Int) (c : zC) : zseg zc_X11_wordsOfAllPages zk_X11_wordsOfAllPages call K 1000 4 [(2, this), (0, x1), (0, x2), (3, 0)] [] c =
  if x2 < 4 then
    if c this (-1) = 11 then
      if c (c this 1) (-1) = 9 then
        zbnd (call 67 [c this 1, x2] c) (fun v1 c2 =>
          if v1 = 0 then
            K 4 [(2, this), (0, zadd x1 0), (0, zw (x2 + 1)), (3, 0)] [] c2
          else
            if c2 v1 (-1) = 5 then
              K 4 [(2, this), (0, zadd x1 (c2 v1 2)), (0, zw (x2 + 1)), (3, 0)] [] c2
            else none)
      else none
    else none
  else
    some (x1, c) := by rfl
theorem ze_X11_wordsOfAllPages_4 (d F : Nat) (this x1 x2 : Int) (c : zC) : zex zc_X11_wordsOfAllPages zk_X11_wordsOfAllPages (zrun zTab d) (F + 1) 4 [(2, this), (0, x1), (0, x2), (3, 0)] [] c =
  if x2 < 4 then
    if c this (-1) = 11 then
      if c (c this 1) (-1) = 9 then
        zbnd (zrun zTab d 67 [c this 1, x2] c) (fun v1 c2 =>
          if v1 = 0 then
            zex zc_X11_wordsOfAllPages zk_X11_wordsOfAllPages (zrun zTab d) F 4 [(2, this), (0, zadd x1 0), (0, zw (x2 + 1)), (3, 0)] [] c2
          else
            if c2 v1 (-1) = 5 then
              zex zc_X11_wordsOfAllPages zk_X11_wordsOfAllPages (zrun zTab d) F 4 [(2, this), (0, zadd x1 (c2 v1 2)), (0, zw (x2 + 1)), (3, 0)] [] c2
            else none)
      else none
    else none
  else
    some (x1, c) := zf_X11_wordsOfAllPages_4 _ _ this x1 x2 c
set_option maxRecDepth 100000 in
theorem zf_X11_linksOfAllPages (call : zCall) (K : zK) (this : Int) (c : zC) : zseg zc_X11_linksOfAllPages zk_X11_linksOfAllPages call K 1000 0 [(2, this), (3, 0), (3, 0), (3, 0)] [] c =
  K 4 [(2, this), (0, 0), (0, 0), (3, 0)] [] c := by rfl
theorem ze_X11_linksOfAllPages (d : Nat) (this : Int) (c : zC) : zrun zTab (d + 1) 135 [this] c =
  zex zc_X11_linksOfAllPages zk_X11_linksOfAllPages (zrun zTab d) 19999 4 [(2, this), (0, 0), (0, 0), (3, 0)] [] c := (zrun_s zt135).trans (zf_X11_linksOfAllPages _ _ this c)
set_option maxRecDepth 100000 in
theorem zf_X11_linksOfAllPages_4 (call : zCall) (K : zK) (this x1 x2 : Int) (c : zC) : zseg zc_X11_linksOfAllPages zk_X11_linksOfAllPages call K 1000 4 [(2, this), (0, x1), (0, x2), (3, 0)] [] c =
  if x2 < 4 then
    if c this (-1) = 11 then
      zbnd (call 130 [this, x2] c) (fun v1 c2 =>
        if v1 = 0 then
          K 4 [(2, this), (0, zadd x1 0), (0, zw (x2 + 1)), (3, 0)] [] c2
        else
          if c2 v1 (-1) = 4 then
            zbnd (call 31 [v1, 0] c2) (fun v3 c4 =>
              K 4 [(2, this), (0, zadd x1 v3), (0, zw (x2 + 1)), (3, 0)] [] c4)
          else none)
    else none
  else
    some (x1, c) := by rfl
theorem ze_X11_linksOfAllPages_4 (d F : Nat) (this x1 x2 : Int) (c : zC) : zex zc_X11_linksOfAllPages zk_X11_linksOfAllPages (zrun zTab d) (F + 1) 4 [(2, this), (0, x1), (0, x2), (3, 0)] [] c =
  if x2 < 4 then
    if c this (-1) = 11 then
      zbnd (zrun zTab d 130 [this, x2] c) (fun v1 c2 =>
        if v1 = 0 then
          zex zc_X11_linksOfAllPages zk_X11_linksOfAllPages (zrun zTab d) F 4 [(2, this), (0, zadd x1 0), (0, zw (x2 + 1)), (3, 0)] [] c2
        else
          if c2 v1 (-1) = 4 then
            zbnd (zrun zTab d 31 [v1, 0] c2) (fun v3 c4 =>
              zex zc_X11_linksOfAllPages zk_X11_linksOfAllPages (zrun zTab d) F 4 [(2, this), (0, zadd x1 v3), (0, zw (x2 + 1)), (3, 0)] [] c4)
          else none)
    else none
  else
    some (x1, c) := zf_X11_linksOfAllPages_4 _ _ this x1 x2 c
set_option maxRecDepth 100000 in
theorem zf_X11_sensesWithoutLinks (call : zCall) (K : zK) (this : Int) (c : zC) : zseg zc_X11_sensesWithoutLinks zk_X11_sensesWithoutLinks call K 1000 0 [(2, this), (3, 0), (3, 0), (3, 0)] [] c =
  K 4 [(2, this), (0, 0), (0, 0), (3, 0)] [] c := by rfl
theorem ze_X11_sensesWithoutLinks (d : Nat) (this : Int) (c : zC) : zrun zTab (d + 1) 136 [this] c =
  zex zc_X11_sensesWithoutLinks zk_X11_sensesWithoutLinks (zrun zTab d) 19999 4 [(2, this), (0, 0), (0, 0), (3, 0)] [] c := (zrun_s zt136).trans (zf_X11_sensesWithoutLinks _ _ this c)
set_option maxRecDepth 100000 in
theorem zf_X11_sensesWithoutLinks_4 (call : zCall) (K : zK) (this x1 x2 : Int) (c : zC) : zseg zc_X11_sensesWithoutLinks zk_X11_sensesWithoutLinks call K 1000 4 [(2, this), (0, x1), (0, x2), (3, 0)] [] c =
  if x2 < 4 then
    if c this (-1) = 11 then
      zbnd (call 130 [this, x2] c) (fun v1 c2 =>
        if v1 = 0 then
          K 4 [(2, this), (0, zior x1 0), (0, zw (x2 + 1)), (3, 0)] [] c2
        else
          if c2 v1 (-1) = 4 then
            zbnd (call 33 [v1] c2) (fun v3 c4 =>
              K 4 [(2, this), (0, zior x1 v3), (0, zw (x2 + 1)), (3, 0)] [] c4)
          else none)
    else none
  else
    if c this (-1) = 11 then
      if c (c this 1) (-1) = 9 then
        some (ziand (zsub (zishl 1 (c (c this 1) 3)) 1) (zixor x1 (-1)), c)
      else none
    else none := by rfl
theorem ze_X11_sensesWithoutLinks_4 (d F : Nat) (this x1 x2 : Int) (c : zC) : zex zc_X11_sensesWithoutLinks zk_X11_sensesWithoutLinks (zrun zTab d) (F + 1) 4 [(2, this), (0, x1), (0, x2), (3, 0)] [] c =
  if x2 < 4 then
    if c this (-1) = 11 then
      zbnd (zrun zTab d 130 [this, x2] c) (fun v1 c2 =>
        if v1 = 0 then
          zex zc_X11_sensesWithoutLinks zk_X11_sensesWithoutLinks (zrun zTab d) F 4 [(2, this), (0, zior x1 0), (0, zw (x2 + 1)), (3, 0)] [] c2
        else
          if c2 v1 (-1) = 4 then
            zbnd (zrun zTab d 33 [v1] c2) (fun v3 c4 =>
              zex zc_X11_sensesWithoutLinks zk_X11_sensesWithoutLinks (zrun zTab d) F 4 [(2, this), (0, zior x1 v3), (0, zw (x2 + 1)), (3, 0)] [] c4)
          else none)
    else none
  else
    if c this (-1) = 11 then
      if c (c this 1) (-1) = 9 then
        some (ziand (zsub (zishl 1 (c (c this 1) 3)) 1) (zixor x1 (-1)), c)
      else none
    else none := zf_X11_sensesWithoutLinks_4 _ _ this x1 x2 c
