set_option maxRecDepth 100000 in
theorem zf_X3_sectionAt (call : zCall) (K : zK) (this x1 : Int) (c : zC) : zseg zc_X3_sectionAt zk_X3_sectionAt call K 1000 0 [(2, this), (0, x1)] [] c =
  if x1 < 0 then
    some ((-5), c)
  else
    if c this (-1) = 4 then
      if x1 < (c this 10) then
        if c this (-1) = 4 then
          if c (c this 1) (-1) = 100 then
            if x1 < (c (c this 1) (-2)) then
              if c this (-1) = 4 then
                if c (c this 1) (-1) = 100 ∧ (0 : Int) ≤ x1 ∧ x1 < c (c this 1) (-2) then
                  some (c (c this 1) x1, c)
                else none
              else none
            else
              some ((-5), c)
          else none
        else none
      else
        some ((-5), c)
    else none := by rfl
theorem ze_X3_sectionAt (d : Nat) (this x1 : Int) (c : zC) : zrun zTab (d + 1) 24 [this, x1] c =
  if x1 < 0 then
    some ((-5), c)
  else
    if c this (-1) = 4 then
      if x1 < (c this 10) then
        if c this (-1) = 4 then
          if c (c this 1) (-1) = 100 then
            if x1 < (c (c this 1) (-2)) then
              if c this (-1) = 4 then
                if c (c this 1) (-1) = 100 ∧ (0 : Int) ≤ x1 ∧ x1 < c (c this 1) (-2) then
                  some (c (c this 1) x1, c)
                else none
              else none
            else
              some ((-5), c)
          else none
        else none
      else
        some ((-5), c)
    else none := (zrun_s zt24).trans (zf_X3_sectionAt _ _ this x1 c)
set_option maxRecDepth 100000 in
theorem zf_X3_levelAt (call : zCall) (K : zK) (this x1 : Int) (c : zC) : zseg zc_X3_levelAt zk_X3_levelAt call K 1000 0 [(2, this), (0, x1)] [] c =
  if x1 < 0 then
    some ((-5), c)
  else
    if c this (-1) = 4 then
      if x1 < (c this 10) then
        if c this (-1) = 4 then
          if c (c this 3) (-1) = 100 then
            if x1 < (c (c this 3) (-2)) then
              if c this (-1) = 4 then
                if c (c this 3) (-1) = 100 ∧ (0 : Int) ≤ x1 ∧ x1 < c (c this 3) (-2) then
                  some (c (c this 3) x1, c)
                else none
              else none
            else
              some ((-5), c)
          else none
        else none
      else
        some ((-5), c)
    else none := by rfl
theorem ze_X3_levelAt (d : Nat) (this x1 : Int) (c : zC) : zrun zTab (d + 1) 25 [this, x1] c =
  if x1 < 0 then
    some ((-5), c)
  else
    if c this (-1) = 4 then
      if x1 < (c this 10) then
        if c this (-1) = 4 then
          if c (c this 3) (-1) = 100 then
            if x1 < (c (c this 3) (-2)) then
              if c this (-1) = 4 then
                if c (c this 3) (-1) = 100 ∧ (0 : Int) ≤ x1 ∧ x1 < c (c this 3) (-2) then
                  some (c (c this 3) x1, c)
                else none
              else none
            else
              some ((-5), c)
          else none
        else none
      else
        some ((-5), c)
    else none := (zrun_s zt25).trans (zf_X3_levelAt _ _ this x1 c)
set_option maxRecDepth 100000 in
theorem zf_X3_meantAt (call : zCall) (K : zK) (this x1 : Int) (c : zC) : zseg zc_X3_meantAt zk_X3_meantAt call K 1000 0 [(2, this), (0, x1)] [] c =
  if x1 < 0 then
    some ((-5), c)
  else
    if c this (-1) = 4 then
      if x1 < (c this 10) then
        if c this (-1) = 4 then
          if c (c this 4) (-1) = 100 then
            if x1 < (c (c this 4) (-2)) then
              if c this (-1) = 4 then
                if c (c this 4) (-1) = 100 ∧ (0 : Int) ≤ x1 ∧ x1 < c (c this 4) (-2) then
                  some (c (c this 4) x1, c)
                else none
              else none
            else
              some ((-5), c)
          else none
        else none
      else
        some ((-5), c)
    else none := by rfl
theorem ze_X3_meantAt (d : Nat) (this x1 : Int) (c : zC) : zrun zTab (d + 1) 26 [this, x1] c =
  if x1 < 0 then
    some ((-5), c)
  else
    if c this (-1) = 4 then
      if x1 < (c this 10) then
        if c this (-1) = 4 then
          if c (c this 4) (-1) = 100 then
            if x1 < (c (c this 4) (-2)) then
              if c this (-1) = 4 then
                if c (c this 4) (-1) = 100 ∧ (0 : Int) ≤ x1 ∧ x1 < c (c this 4) (-2) then
                  some (c (c this 4) x1, c)
                else none
              else none
            else
              some ((-5), c)
          else none
        else none
      else
        some ((-5), c)
    else none := (zrun_s zt26).trans (zf_X3_meantAt _ _ this x1 c)
set_option maxRecDepth 100000 in
theorem zf_X3_scoreAt (call : zCall) (K : zK) (this x1 : Int) (c : zC) : zseg zc_X3_scoreAt zk_X3_scoreAt call K 1000 0 [(2, this), (0, x1)] [] c =
  if x1 < 0 then
    some ((-5), c)
  else
    if c this (-1) = 4 then
      if x1 < (c this 10) then
        if c this (-1) = 4 then
          if c (c this 5) (-1) = 100 then
            if x1 < (c (c this 5) (-2)) then
              if c this (-1) = 4 then
                if c (c this 5) (-1) = 100 ∧ (0 : Int) ≤ x1 ∧ x1 < c (c this 5) (-2) then
                  some (c (c this 5) x1, c)
                else none
              else none
            else
              some ((-5), c)
          else none
        else none
      else
        some ((-5), c)
    else none := by rfl
theorem ze_X3_scoreAt (d : Nat) (this x1 : Int) (c : zC) : zrun zTab (d + 1) 27 [this, x1] c =
  if x1 < 0 then
    some ((-5), c)
  else
    if c this (-1) = 4 then
      if x1 < (c this 10) then
        if c this (-1) = 4 then
          if c (c this 5) (-1) = 100 then
            if x1 < (c (c this 5) (-2)) then
              if c this (-1) = 4 then
                if c (c this 5) (-1) = 100 ∧ (0 : Int) ≤ x1 ∧ x1 < c (c this 5) (-2) then
                  some (c (c this 5) x1, c)
                else none
              else none
            else
              some ((-5), c)
          else none
        else none
      else
        some ((-5), c)
    else none := (zrun_s zt27).trans (zf_X3_scoreAt _ _ this x1 c)
set_option maxRecDepth 100000 in
theorem zf_X3_reasonAt (call : zCall) (K : zK) (this x1 : Int) (c : zC) : zseg zc_X3_reasonAt zk_X3_reasonAt call K 1000 0 [(2, this), (0, x1)] [] c =
  if x1 < 0 then
    some ((-5), c)
  else
    if c this (-1) = 4 then
      if x1 < (c this 10) then
        if c this (-1) = 4 then
          if c (c this 7) (-1) = 100 then
            if x1 < (c (c this 7) (-2)) then
              if c this (-1) = 4 then
                if c (c this 7) (-1) = 100 ∧ (0 : Int) ≤ x1 ∧ x1 < c (c this 7) (-2) then
                  some (c (c this 7) x1, c)
                else none
              else none
            else
              some ((-5), c)
          else none
        else none
      else
        some ((-5), c)
    else none := by rfl
theorem ze_X3_reasonAt (d : Nat) (this x1 : Int) (c : zC) : zrun zTab (d + 1) 28 [this, x1] c =
  if x1 < 0 then
    some ((-5), c)
  else
    if c this (-1) = 4 then
      if x1 < (c this 10) then
        if c this (-1) = 4 then
          if c (c this 7) (-1) = 100 then
            if x1 < (c (c this 7) (-2)) then
              if c this (-1) = 4 then
                if c (c this 7) (-1) = 100 ∧ (0 : Int) ≤ x1 ∧ x1 < c (c this 7) (-2) then
                  some (c (c this 7) x1, c)
                else none
              else none
            else
              some ((-5), c)
          else none
        else none
      else
        some ((-5), c)
    else none := (zrun_s zt28).trans (zf_X3_reasonAt _ _ this x1 c)
set_option maxRecDepth 100000 in
theorem zf_X3_linkedSenseAt (call : zCall) (K : zK) (this x1 : Int) (c : zC) : zseg zc_X3_linkedSenseAt zk_X3_linkedSenseAt call K 1000 0 [(2, this), (0, x1)] [] c =
  if c this (-1) = 4 then
    zbnd (call 28 [this, x1] c) (fun v1 c2 =>
      if v1 = 0 then
        if c2 this (-1) = 4 then
          zbnd (call 26 [this, x1] c2) (fun v3 c4 =>
            some (v3, c4))
        else none
      else
        some ((-5), c2))
  else none := by rfl
theorem ze_X3_linkedSenseAt (d : Nat) (this x1 : Int) (c : zC) : zrun zTab (d + 1) 29 [this, x1] c =
  if c this (-1) = 4 then
    zbnd (zrun zTab d 28 [this, x1] c) (fun v1 c2 =>
      if v1 = 0 then
        if c2 this (-1) = 4 then
          zbnd (zrun zTab d 26 [this, x1] c2) (fun v3 c4 =>
            some (v3, c4))
        else none
      else
        some ((-5), c2))
  else none := (zrun_s zt29).trans (zf_X3_linkedSenseAt _ _ this x1 c)
set_option maxRecDepth 100000 in
theorem zf_X3_linksAheadOf (call : zCall) (K : zK) (this x1 : Int) (c : zC) : zseg zc_X3_linksAheadOf zk_X3_linksAheadOf call K 1000 0 [(2, this), (0, x1), (3, 0), (3, 0)] [] c =
  K 4 [(2, this), (0, x1), (0, 0), (0, 0)] [] c := by rfl
theorem ze_X3_linksAheadOf (d : Nat) (this x1 : Int) (c : zC) : zrun zTab (d + 1) 30 [this, x1] c =
  zex zc_X3_linksAheadOf zk_X3_linksAheadOf (zrun zTab d) 19999 4 [(2, this), (0, x1), (0, 0), (0, 0)] [] c := (zrun_s zt30).trans (zf_X3_linksAheadOf _ _ this x1 c)
set_option maxRecDepth 100000 in
theorem zf_X3_linksAheadOf_4 (call : zCall) (K : zK) (this x1 x2 x3 : Int) (c : zC) : zseg zc_X3_linksAheadOf zk_X3_linksAheadOf call K 1000 4 [(2, this), (0, x1), (0, x2), (0, x3)] [] c =
  if c this (-1) = 4 then
    if x3 < (c this 10) then
      if x3 < x1 then
        if c this (-1) = 4 then
          zbnd (call 28 [this, x3] c) (fun v1 c2 =>
            if v1 = 0 then
              K 4 [(2, this), (0, x1), (0, zadd x2 1), (0, zw (x3 + 1))] [] c2
            else
              K 4 [(2, this), (0, x1), (0, zadd x2 0), (0, zw (x3 + 1))] [] c2)
        else none
      else
        some (x2, c)
    else
      some (x2, c)
  else none := by rfl
theorem ze_X3_linksAheadOf_4 (d F : Nat) (this x1 x2 x3 : Int) (c : zC) : zex zc_X3_linksAheadOf zk_X3_linksAheadOf (zrun zTab d) (F + 1) 4 [(2, this), (0, x1), (0, x2), (0, x3)] [] c =
  if c this (-1) = 4 then
    if x3 < (c this 10) then
      if x3 < x1 then
        if c this (-1) = 4 then
          zbnd (zrun zTab d 28 [this, x3] c) (fun v1 c2 =>
            if v1 = 0 then
              zex zc_X3_linksAheadOf zk_X3_linksAheadOf (zrun zTab d) F 4 [(2, this), (0, x1), (0, zadd x2 1), (0, zw (x3 + 1))] [] c2
            else
              zex zc_X3_linksAheadOf zk_X3_linksAheadOf (zrun zTab d) F 4 [(2, this), (0, x1), (0, zadd x2 0), (0, zw (x3 + 1))] [] c2)
        else none
      else
        some (x2, c)
    else
      some (x2, c)
  else none := zf_X3_linksAheadOf_4 _ _ this x1 x2 x3 c
set_option maxRecDepth 100000 in
theorem zf_X3_wordsWithReason (call : zCall) (K : zK) (this x1 : Int) (c : zC) : zseg zc_X3_wordsWithReason zk_X3_wordsWithReason call K 1000 0 [(2, this), (0, x1), (3, 0), (3, 0)] [] c =
  K 4 [(2, this), (0, x1), (0, 0), (0, 0)] [] c := by rfl
theorem ze_X3_wordsWithReason (d : Nat) (this x1 : Int) (c : zC) : zrun zTab (d + 1) 31 [this, x1] c =
  zex zc_X3_wordsWithReason zk_X3_wordsWithReason (zrun zTab d) 19999 4 [(2, this), (0, x1), (0, 0), (0, 0)] [] c := (zrun_s zt31).trans (zf_X3_wordsWithReason _ _ this x1 c)
set_option maxRecDepth 100000 in
theorem zf_X3_wordsWithReason_4 (call : zCall) (K : zK) (this x1 x2 x3 : Int) (c : zC) : zseg zc_X3_wordsWithReason zk_X3_wordsWithReason call K 1000 4 [(2, this), (0, x1), (0, x2), (0, x3)] [] c =
  if c this (-1) = 4 then
    if x3 < (c this 10) then
      if c this (-1) = 4 then
        zbnd (call 28 [this, x3] c) (fun v1 c2 =>
          if v1 = x1 then
            K 4 [(2, this), (0, x1), (0, zadd x2 1), (0, zw (x3 + 1))] [] c2
          else
            K 4 [(2, this), (0, x1), (0, zadd x2 0), (0, zw (x3 + 1))] [] c2)
      else none
    else
      some (x2, c)
  else none := by rfl
theorem ze_X3_wordsWithReason_4 (d F : Nat) (this x1 x2 x3 : Int) (c : zC) : zex zc_X3_wordsWithReason zk_X3_wordsWithReason (zrun zTab d) (F + 1) 4 [(2, this), (0, x1), (0, x2), (0, x3)] [] c =
  if c this (-1) = 4 then
    if x3 < (c this 10) then
      if c this (-1) = 4 then
        zbnd (zrun zTab d 28 [this, x3] c) (fun v1 c2 =>
          if v1 = x1 then
            zex zc_X3_wordsWithReason zk_X3_wordsWithReason (zrun zTab d) F 4 [(2, this), (0, x1), (0, zadd x2 1), (0, zw (x3 + 1))] [] c2
          else
            zex zc_X3_wordsWithReason zk_X3_wordsWithReason (zrun zTab d) F 4 [(2, this), (0, x1), (0, zadd x2 0), (0, zw (x3 + 1))] [] c2)
      else none
    else
      some (x2, c)
  else none := zf_X3_wordsWithReason_4 _ _ this x1 x2 x3 c
set_option maxRecDepth 100000 in
theorem zf_X3_wordsLinkedTo (call : zCall) (K : zK) (this x1 : Int) (c : zC) : zseg zc_X3_wordsLinkedTo zk_X3_wordsLinkedTo call K 1000 0 [(2, this), (0, x1), (3, 0), (3, 0)] [] c =
  K 4 [(2, this), (0, x1), (0, 0), (0, 0)] [] c := by rfl
theorem ze_X3_wordsLinkedTo (d : Nat) (this x1 : Int) (c : zC) : zrun zTab (d + 1) 32 [this, x1] c =
  zex zc_X3_wordsLinkedTo zk_X3_wordsLinkedTo (zrun zTab d) 19999 4 [(2, this), (0, x1), (0, 0), (0, 0)] [] c := (zrun_s zt32).trans (zf_X3_wordsLinkedTo _ _ this x1 c)
set_option maxRecDepth 100000 in
theorem zf_X3_wordsLinkedTo_4 (call : zCall) (K : zK) (this x1 x2 x3 : Int) (c : zC) : zseg zc_X3_wordsLinkedTo zk_X3_wordsLinkedTo call K 1000 4 [(2, this), (0, x1), (0, x2), (0, x3)] [] c =
  if c this (-1) = 4 then
    if x3 < (c this 10) then
      if c this (-1) = 4 then
        zbnd (call 29 [this, x3] c) (fun v1 c2 =>
          if v1 = x1 then
            K 4 [(2, this), (0, x1), (0, zadd x2 1), (0, zw (x3 + 1))] [] c2
          else
            K 4 [(2, this), (0, x1), (0, zadd x2 0), (0, zw (x3 + 1))] [] c2)
      else none
    else
      some (x2, c)
  else none := by rfl
theorem ze_X3_wordsLinkedTo_4 (d F : Nat) (this x1 x2 x3 : Int) (c : zC) : zex zc_X3_wordsLinkedTo zk_X3_wordsLinkedTo (zrun zTab d) (F + 1) 4 [(2, this), (0, x1), (0, x2), (0, x3)] [] c =
  if c this (-1) = 4 then
    if x3 < (c this 10) then
      if c this (-1) = 4 then
        zbnd (zrun zTab d 29 [this, x3] c) (fun v1 c2 =>
          if v1 = x1 then
            zex zc_X3_wordsLinkedTo zk_X3_wordsLinkedTo (zrun zTab d) F 4 [(2, this), (0, x1), (0, zadd x2 1), (0, zw (x3 + 1))] [] c2
          else
            zex zc_X3_wordsLinkedTo zk_X3_wordsLinkedTo (zrun zTab d) F 4 [(2, this), (0, x1), (0, zadd x2 0), (0, zw (x3 + 1))] [] c2)
      else none
    else
      some (x2, c)
  else none := zf_X3_wordsLinkedTo_4 _ _ this x1 x2 x3 c
set_option maxRecDepth 100000 in
theorem zf_X3_linkedSenses (call : zCall) (K : zK) (this : Int) (c : zC) : zseg zc_X3_linkedSenses zk_X3_linkedSenses call K 1000 0 [(2, this), (3, 0), (3, 0)] [] c =
  K 4 [(2, this), (0, 0), (0, 0)] [] c := by rfl
theorem ze_X3_linkedSenses (d : Nat) (this : Int) (c : zC) : zrun zTab (d + 1) 33 [this] c =
  zex zc_X3_linkedSenses zk_X3_linkedSenses (zrun zTab d) 19999 4 [(2, this), (0, 0), (0, 0)] [] c := (zrun_s zt33).trans (zf_X3_linkedSenses _ _ this c)
set_option maxRecDepth 100000 in
theorem zf_X3_linkedSenses_4 (call : zCall) (K : zK) (this x1 x2 : Int) (c : zC) : zseg zc_X3_linkedSenses zk_X3_linkedSenses call K 1000 4 [(2, this), (0, x1), (0, x2)] [] c =
  if c this (-1) = 4 then
    if x2 < (c this 10) then
      if c this (-1) = 4 then
        zbnd (call 28 [this, x2] c) (fun v1 c2 =>
          if v1 = 0 then
            if c2 this (-1) = 4 then
              zbnd (call 26 [this, x2] c2) (fun v3 c4 =>
                K 4 [(2, this), (0, zior x1 (zishl 1 v3)), (0, zw (x2 + 1))] [] c4)
            else none
          else
            K 4 [(2, this), (0, x1), (0, zw (x2 + 1))] [] c2)
      else none
    else
      some (x1, c)
  else none := by rfl
theorem ze_X3_linkedSenses_4 (d F : Nat) (this x1 x2 : Int) (c : zC) : zex zc_X3_linkedSenses zk_X3_linkedSenses (zrun zTab d) (F + 1) 4 [(2, this), (0, x1), (0, x2)] [] c =
  if c this (-1) = 4 then
    if x2 < (c this 10) then
      if c this (-1) = 4 then
        zbnd (zrun zTab d 28 [this, x2] c) (fun v1 c2 =>
          if v1 = 0 then
            if c2 this (-1) = 4 then
              zbnd (zrun zTab d 26 [this, x2] c2) (fun v3 c4 =>
                zex zc_X3_linkedSenses zk_X3_linkedSenses (zrun zTab d) F 4 [(2, this), (0, zior x1 (zishl 1 v3)), (0, zw (x2 + 1))] [] c4)
            else none
          else
            zex zc_X3_linkedSenses zk_X3_linkedSenses (zrun zTab d) F 4 [(2, this), (0, x1), (0, zw (x2 + 1))] [] c2)
      else none
    else
      some (x1, c)
  else none := zf_X3_linkedSenses_4 _ _ this x1 x2 c
set_option maxRecDepth 100000 in
theorem zf_X3_wordsThatMean (call : zCall) (K : zK) (this x1 : Int) (c : zC) : zseg zc_X3_wordsThatMean zk_X3_wordsThatMean call K 1000 0 [(2, this), (0, x1), (3, 0), (3, 0)] [] c =
  K 4 [(2, this), (0, x1), (0, 0), (0, 0)] [] c := by rfl
theorem ze_X3_wordsThatMean (d : Nat) (this x1 : Int) (c : zC) : zrun zTab (d + 1) 34 [this, x1] c =
  zex zc_X3_wordsThatMean zk_X3_wordsThatMean (zrun zTab d) 19999 4 [(2, this), (0, x1), (0, 0), (0, 0)] [] c := (zrun_s zt34).trans (zf_X3_wordsThatMean _ _ this x1 c)
set_option maxRecDepth 100000 in
theorem zf_X3_wordsThatMean_4 (call : zCall) (K : zK) (this x1 x2 x3 : Int) (c : zC) : zseg zc_X3_wordsThatMean zk_X3_wordsThatMean call K 1000 4 [(2, this), (0, x1), (0, x2), (0, x3)] [] c =
  if c this (-1) = 4 then
    if x3 < (c this 10) then
      if c this (-1) = 4 then
        zbnd (call 26 [this, x3] c) (fun v1 c2 =>
          if v1 = x1 then
            K 4 [(2, this), (0, x1), (0, zadd x2 1), (0, zw (x3 + 1))] [] c2
          else
            K 4 [(2, this), (0, x1), (0, zadd x2 0), (0, zw (x3 + 1))] [] c2)
      else none
    else
      some (x2, c)
  else none := by rfl
theorem ze_X3_wordsThatMean_4 (d F : Nat) (this x1 x2 x3 : Int) (c : zC) : zex zc_X3_wordsThatMean zk_X3_wordsThatMean (zrun zTab d) (F + 1) 4 [(2, this), (0, x1), (0, x2), (0, x3)] [] c =
  if c this (-1) = 4 then
    if x3 < (c this 10) then
      if c this (-1) = 4 then
        zbnd (zrun zTab d 26 [this, x3] c) (fun v1 c2 =>
          if v1 = x1 then
            zex zc_X3_wordsThatMean zk_X3_wordsThatMean (zrun zTab d) F 4 [(2, this), (0, x1), (0, zadd x2 1), (0, zw (x3 + 1))] [] c2
          else
            zex zc_X3_wordsThatMean zk_X3_wordsThatMean (zrun zTab d) F 4 [(2, this), (0, x1), (0, zadd x2 0), (0, zw (x3 + 1))] [] c2)
      else none
    else
      some (x2, c)
  else none := zf_X3_wordsThatMean_4 _ _ this x1 x2 x3 c
set_option maxRecDepth 100000 in
theorem zf_X3_linkedWord (call : zCall) (K : zK) (this x1 : Int) (c : zC) : zseg zc_X3_linkedWord zk_X3_linkedWord call K 1000 0 [(2, this), (0, x1), (3, 0), (3, 0)] [] c =
  K 4 [(2, this), (0, x1), (0, 0), (0, 0)] [] c := by rfl
theorem ze_X3_linkedWord (d : Nat) (this x1 : Int) (c : zC) : zrun zTab (d + 1) 35 [this, x1] c =
  zex zc_X3_linkedWord zk_X3_linkedWord (zrun zTab d) 19999 4 [(2, this), (0, x1), (0, 0), (0, 0)] [] c := (zrun_s zt35).trans (zf_X3_linkedWord _ _ this x1 c)
set_option maxRecDepth 100000 in
theorem zf_X3_linkedWord_4 (call : zCall) (K : zK) (this x1 x2 x3 : Int) (c : zC) : zseg zc_X3_linkedWord zk_X3_linkedWord call K 1000 4 [(2, this), (0, x1), (0, x2), (0, x3)] [] c =
  if c this (-1) = 4 then
    if x3 < (c this 10) then
      if c this (-1) = 4 then
        zbnd (call 28 [this, x3] c) (fun v1 c2 =>
          if v1 = 0 then
            if x2 = x1 then
              some (x3, c2)
            else
              K 4 [(2, this), (0, x1), (0, zw (x2 + 1)), (0, zw (x3 + 1))] [] c2
          else
            K 4 [(2, this), (0, x1), (0, x2), (0, zw (x3 + 1))] [] c2)
      else none
    else
      some ((-5), c)
  else none := by rfl
theorem ze_X3_linkedWord_4 (d F : Nat) (this x1 x2 x3 : Int) (c : zC) : zex zc_X3_linkedWord zk_X3_linkedWord (zrun zTab d) (F + 1) 4 [(2, this), (0, x1), (0, x2), (0, x3)] [] c =
  if c this (-1) = 4 then
    if x3 < (c this 10) then
      if c this (-1) = 4 then
        zbnd (zrun zTab d 28 [this, x3] c) (fun v1 c2 =>
          if v1 = 0 then
            if x2 = x1 then
              some (x3, c2)
            else
              zex zc_X3_linkedWord zk_X3_linkedWord (zrun zTab d) F 4 [(2, this), (0, x1), (0, zw (x2 + 1)), (0, zw (x3 + 1))] [] c2
          else
            zex zc_X3_linkedWord zk_X3_linkedWord (zrun zTab d) F 4 [(2, this), (0, x1), (0, x2), (0, zw (x3 + 1))] [] c2)
      else none
    else
      some ((-5), c)
  else none := zf_X3_linkedWord_4 _ _ this x1 x2 x3 c
set_option maxRecDepth 100000 in
theorem zf_X3_copyLinkedSenses (call : zCall) (K : zK) (this x1 : Int) (c : zC) : zseg zc_X3_copyLinkedSenses zk_X3_copyLinkedSenses call K 1000 0 [(2, this), (2, x1), (3, 0)] [] c =
  K 2 [(2, this), (2, x1), (0, 0)] [] c := by rfl
theorem ze_X3_copyLinkedSenses (d : Nat) (this x1 : Int) (c : zC) : zrun zTab (d + 1) 36 [this, x1] c =
  zex zc_X3_copyLinkedSenses zk_X3_copyLinkedSenses (zrun zTab d) 19999 2 [(2, this), (2, x1), (0, 0)] [] c := (zrun_s zt36).trans (zf_X3_copyLinkedSenses _ _ this x1 c)
set_option maxRecDepth 100000 in
theorem zf_X3_copyLinkedSenses_2 (call : zCall) (K : zK) (this x1 x2 : Int) (c : zC) : zseg zc_X3_copyLinkedSenses zk_X3_copyLinkedSenses call K 1000 2 [(2, this), (2, x1), (0, x2)] [] c =
  if x1 = 0 then
    some (0, c)
  else
    if c x1 (-1) = 100 then
      if x2 < (c x1 (-2)) then
        if c this (-1) = 4 then
          zbnd (call 29 [this, x2] c) (fun v1 c2 =>
            if c2 x1 (-1) = 100 ∧ (0 : Int) ≤ x2 ∧ x2 < c2 x1 (-2) then
              K 2 [(2, this), (2, x1), (0, zw (x2 + 1))] [] (zup c2 x1 x2 v1)
            else none)
        else none
      else
        some (0, c)
    else none := by rfl
theorem ze_X3_copyLinkedSenses_2 (d F : Nat) (this x1 x2 : Int) (c : zC) : zex zc_X3_copyLinkedSenses zk_X3_copyLinkedSenses (zrun zTab d) (F + 1) 2 [(2, this), (2, x1), (0, x2)] [] c =
  if x1 = 0 then
    some (0, c)
  else
    if c x1 (-1) = 100 then
      if x2 < (c x1 (-2)) then
        if c this (-1) = 4 then
          zbnd (zrun zTab d 29 [this, x2] c) (fun v1 c2 =>
            if c2 x1 (-1) = 100 ∧ (0 : Int) ≤ x2 ∧ x2 < c2 x1 (-2) then
              zex zc_X3_copyLinkedSenses zk_X3_copyLinkedSenses (zrun zTab d) F 2 [(2, this), (2, x1), (0, zw (x2 + 1))] [] (zup c2 x1 x2 v1)
            else none)
        else none
      else
        some (0, c)
    else none := zf_X3_copyLinkedSenses_2 _ _ this x1 x2 c
set_option maxRecDepth 100000 in
theorem zf_X3_enoughBudget (call : zCall) (K : zK) (this : Int) (c : zC) : zseg zc_X3_enoughBudget zk_X3_enoughBudget call K 1000 0 [(2, this)] [] c =
  if c this (-1) = 4 then
    if c this (-1) = 4 then
      zbnd (call 19 [this, 20, (-1), c this 8] c) (fun v1 c2 =>
        some (v1, c2))
    else none
  else none := by rfl
theorem ze_X3_enoughBudget (d : Nat) (this : Int) (c : zC) : zrun zTab (d + 1) 37 [this] c =
  if c this (-1) = 4 then
    if c this (-1) = 4 then
      zbnd (zrun zTab d 19 [this, 20, (-1), c this 8] c) (fun v1 c2 =>
        some (v1, c2))
    else none
  else none := (zrun_s zt37).trans (zf_X3_enoughBudget _ _ this c)
set_option maxRecDepth 100000 in
theorem zf_X3_firstOtherWithout (call : zCall) (K : zK) (this x1 : Int) (c : zC) : zseg zc_X3_firstOtherWithout zk_X3_firstOtherWithout call K 1000 0 [(2, this), (0, x1), (3, 0)] [] c =
  if c this (-1) = 4 then
    if c this (-1) = 4 then
      if c this (-1) = 4 then
        zbnd (call 19 [this, c this 12, x1, c this 8] c) (fun v1 c2 =>
          K 18 [(2, this), (3, 0), (0, zadd x1 1)] [] c2)
      else none
    else none
  else none := by rfl
theorem ze_X3_firstOtherWithout (d : Nat) (this x1 : Int) (c : zC) : zrun zTab (d + 1) 38 [this, x1] c =
  if c this (-1) = 4 then
    if c this (-1) = 4 then
      if c this (-1) = 4 then
        zbnd (zrun zTab d 19 [this, c this 12, x1, c this 8] c) (fun v1 c2 =>
          zex zc_X3_firstOtherWithout zk_X3_firstOtherWithout (zrun zTab d) 19999 18 [(2, this), (3, 0), (0, zadd x1 1)] [] c2)
      else none
    else none
  else none := (zrun_s zt38).trans (zf_X3_firstOtherWithout _ _ this x1 c)
set_option maxRecDepth 100000 in
theorem zf_X3_firstOtherWithout_18 (call : zCall) (K : zK) (this x2 : Int) (c : zC) : zseg zc_X3_firstOtherWithout zk_X3_firstOtherWithout call K 1000 18 [(2, this), (3, 0), (0, x2)] [] c =
  if x2 < 0 then
    some ((-5), c)
  else
    if c this (-1) = 4 then
      if x2 < (c this 10) then
        if c this (-1) = 4 then
          if c (c this 8) (-1) = 100 then
            if x2 < (c (c this 8) (-2)) then
              if c this (-1) = 4 then
                if c (c this 8) (-1) = 100 ∧ (0 : Int) ≤ x2 ∧ x2 < c (c this 8) (-2) then
                  if c this (-1) = 4 then
                    zbnd (call 28 [this, x2] c) (fun v1 c2 =>
                      if (c (c this 8) x2) = v1 then
                        K 18 [(2, this), (3, 0), (0, zw (x2 + 1))] [] c2
                      else
                        some (x2, c2))
                  else none
                else none
              else none
            else
              some ((-5), c)
          else none
        else none
      else
        some ((-5), c)
    else none := by rfl
theorem ze_X3_firstOtherWithout_18 (d F : Nat) (this x2 : Int) (c : zC) : zex zc_X3_firstOtherWithout zk_X3_firstOtherWithout (zrun zTab d) (F + 1) 18 [(2, this), (3, 0), (0, x2)] [] c =
  if x2 < 0 then
    some ((-5), c)
  else
    if c this (-1) = 4 then
      if x2 < (c this 10) then
        if c this (-1) = 4 then
          if c (c this 8) (-1) = 100 then
            if x2 < (c (c this 8) (-2)) then
              if c this (-1) = 4 then
                if c (c this 8) (-1) = 100 ∧ (0 : Int) ≤ x2 ∧ x2 < c (c this 8) (-2) then
                  if c this (-1) = 4 then
                    zbnd (zrun zTab d 28 [this, x2] c) (fun v1 c2 =>
                      if (c (c this 8) x2) = v1 then
                        zex zc_X3_firstOtherWithout zk_X3_firstOtherWithout (zrun zTab d) F 18 [(2, this), (3, 0), (0, zw (x2 + 1))] [] c2
                      else
                        some (x2, c2))
                  else none
                else none
              else none
            else
              some ((-5), c)
          else none
        else none
      else
        some ((-5), c)
    else none := zf_X3_firstOtherWithout_18 _ _ this x2 c
set_option maxRecDepth 100000 in
theorem zf_X3_linksFromTheLast (call : zCall) (K : zK) (this : Int) (c : zC) : zseg zc_X3_linksFromTheLast zk_X3_linksFromTheLast call K 1000 0 [(2, this), (3, 0), (3, 0)] [] c =
  K 2 [(2, this), (0, 0), (3, 0)] [] c := by rfl
theorem ze_X3_linksFromTheLast (d : Nat) (this : Int) (c : zC) : zrun zTab (d + 1) 39 [this] c =
  zex zc_X3_linksFromTheLast zk_X3_linksFromTheLast (zrun zTab d) 19999 2 [(2, this), (0, 0), (3, 0)] [] c := (zrun_s zt39).trans (zf_X3_linksFromTheLast _ _ this c)
set_option maxRecDepth 100000 in
theorem zf_X3_linksFromTheLast_2 (call : zCall) (K : zK) (this x1 : Int) (c : zC) : zseg zc_X3_linksFromTheLast zk_X3_linksFromTheLast call K 1000 2 [(2, this), (0, x1), (3, 0)] [] c =
  if c this (-1) = 4 then
    if c (c this 8) (-1) = 100 then
      if x1 < (c (c this 8) (-2)) then
        if c this (-1) = 4 then
          if c (c this 8) (-1) = 100 ∧ (0 : Int) ≤ x1 ∧ x1 < c (c this 8) (-2) then
            K 2 [(2, this), (0, zw (x1 + 1)), (3, 0)] [] (zup c (c this 8) x1 0)
          else none
        else none
      else
        if c this (-1) = 4 then
          K 33 [(2, this), (0, 0), (0, zsub (c this 10) 1)] [] c
        else none
    else none
  else none := by rfl
theorem ze_X3_linksFromTheLast_2 (d F : Nat) (this x1 : Int) (c : zC) : zex zc_X3_linksFromTheLast zk_X3_linksFromTheLast (zrun zTab d) (F + 1) 2 [(2, this), (0, x1), (3, 0)] [] c =
  if c this (-1) = 4 then
    if c (c this 8) (-1) = 100 then
      if x1 < (c (c this 8) (-2)) then
        if c this (-1) = 4 then
          if c (c this 8) (-1) = 100 ∧ (0 : Int) ≤ x1 ∧ x1 < c (c this 8) (-2) then
            zex zc_X3_linksFromTheLast zk_X3_linksFromTheLast (zrun zTab d) F 2 [(2, this), (0, zw (x1 + 1)), (3, 0)] [] (zup c (c this 8) x1 0)
          else none
        else none
      else
        if c this (-1) = 4 then
          zex zc_X3_linksFromTheLast zk_X3_linksFromTheLast (zrun zTab d) F 33 [(2, this), (0, 0), (0, zsub (c this 10) 1)] [] c
        else none
    else none
  else none := zf_X3_linksFromTheLast_2 _ _ this x1 c
set_option maxRecDepth 100000 in
theorem zf_X3_linksFromTheLast_33 (call : zCall) (K : zK) (this x1 x2 : Int) (c : zC) : zseg zc_X3_linksFromTheLast zk_X3_linksFromTheLast call K 1000 33 [(2, this), (0, x1), (0, x2)] [] c =
  if x2 < 0 then
    some (x1, c)
  else
    zbnd (call 40 [this, x2, 0] c) (fun v1 c2 =>
      if v1 = 0 then
        K 33 [(2, this), (0, zadd x1 0), (0, zw (x2 + (-1)))] [] c2
      else
        K 33 [(2, this), (0, zadd x1 1), (0, zw (x2 + (-1)))] [] c2) := by rfl
theorem ze_X3_linksFromTheLast_33 (d F : Nat) (this x1 x2 : Int) (c : zC) : zex zc_X3_linksFromTheLast zk_X3_linksFromTheLast (zrun zTab d) (F + 1) 33 [(2, this), (0, x1), (0, x2)] [] c =
  if x2 < 0 then
    some (x1, c)
  else
    zbnd (zrun zTab d 40 [this, x2, 0] c) (fun v1 c2 =>
      if v1 = 0 then
        zex zc_X3_linksFromTheLast zk_X3_linksFromTheLast (zrun zTab d) F 33 [(2, this), (0, zadd x1 0), (0, zw (x2 + (-1)))] [] c2
      else
        zex zc_X3_linksFromTheLast zk_X3_linksFromTheLast (zrun zTab d) F 33 [(2, this), (0, zadd x1 1), (0, zw (x2 + (-1)))] [] c2) := zf_X3_linksFromTheLast_33 _ _ this x1 x2 c
set_option maxRecDepth 100000 in
theorem zf_X3_asksAhead (call : zCall) (K : zK) (x0 x1 x2 : Int) (c : zC) : zseg zc_X3_asksAhead zk_X3_asksAhead call K 1000 0 [(2, x0), (0, x1), (0, x2), (3, 0), (3, 0), (3, 0), (3, 0), (3, 0)] [] c =
  if x0 = 0 then
    some (0, c)
  else
    if x2 ≤ 20 then
      if x1 < 0 then
        some (0, c)
      else
        if c x0 (-1) = 4 then
          if x1 < (c x0 10) then
            if c x0 (-1) = 4 then
              if c (c x0 8) (-1) = 100 then
                if x1 < (c (c x0 8) (-2)) then
                  if c x0 (-1) = 4 then
                    if c (c x0 8) (-1) = 100 ∧ (0 : Int) ≤ x1 ∧ x1 < c (c x0 8) (-2) then
                      if (c (c x0 8) x1) = 0 then
                        if c x0 (-1) = 4 then
                          zbnd (call 26 [x0, x1] c) (fun v1 c2 =>
                            if v1 = (-5) then
                              K 94 [(2, x0), (0, x1), (0, x2), (0, 0), (0, (-5)), (0, 1), (0, zsub x1 1), (3, 0)] [] c2
                            else
                              if c2 x0 (-1) = 4 then
                                zbnd (call 21 [x0, x1] c2) (fun v3 c4 =>
                                  if v3 = 0 then
                                    K 94 [(2, x0), (0, x1), (0, x2), (0, 0), (0, (-5)), (0, 0), (0, zsub x1 1), (3, 0)] [] c4
                                  else
                                    K 94 [(2, x0), (0, x1), (0, x2), (0, 0), (0, (-5)), (0, 1), (0, zsub x1 1), (3, 0)] [] c4)
                              else none)
                        else none
                      else
                        if c x0 (-1) = 4 then
                          if c (c x0 8) (-1) = 100 ∧ (0 : Int) ≤ x1 ∧ x1 < c (c x0 8) (-2) then
                            if (c (c x0 8) x1) = 1 then
                              some (1, c)
                            else
                              some (0, c)
                          else none
                        else none
                    else none
                  else none
                else
                  some (0, c)
              else none
            else none
          else
            some (0, c)
        else none
    else
      some (0, c) := by rfl
theorem ze_X3_asksAhead (d : Nat) (x0 x1 x2 : Int) (c : zC) : zrun zTab (d + 1) 40 [x0, x1, x2] c =
  if x0 = 0 then
    some (0, c)
  else
    if x2 ≤ 20 then
      if x1 < 0 then
        some (0, c)
      else
        if c x0 (-1) = 4 then
          if x1 < (c x0 10) then
            if c x0 (-1) = 4 then
              if c (c x0 8) (-1) = 100 then
                if x1 < (c (c x0 8) (-2)) then
                  if c x0 (-1) = 4 then
                    if c (c x0 8) (-1) = 100 ∧ (0 : Int) ≤ x1 ∧ x1 < c (c x0 8) (-2) then
                      if (c (c x0 8) x1) = 0 then
                        if c x0 (-1) = 4 then
                          zbnd (zrun zTab d 26 [x0, x1] c) (fun v1 c2 =>
                            if v1 = (-5) then
                              zex zc_X3_asksAhead zk_X3_asksAhead (zrun zTab d) 19999 94 [(2, x0), (0, x1), (0, x2), (0, 0), (0, (-5)), (0, 1), (0, zsub x1 1), (3, 0)] [] c2
                            else
                              if c2 x0 (-1) = 4 then
                                zbnd (zrun zTab d 21 [x0, x1] c2) (fun v3 c4 =>
                                  if v3 = 0 then
                                    zex zc_X3_asksAhead zk_X3_asksAhead (zrun zTab d) 19999 94 [(2, x0), (0, x1), (0, x2), (0, 0), (0, (-5)), (0, 0), (0, zsub x1 1), (3, 0)] [] c4
                                  else
                                    zex zc_X3_asksAhead zk_X3_asksAhead (zrun zTab d) 19999 94 [(2, x0), (0, x1), (0, x2), (0, 0), (0, (-5)), (0, 1), (0, zsub x1 1), (3, 0)] [] c4)
                              else none)
                        else none
                      else
                        if c x0 (-1) = 4 then
                          if c (c x0 8) (-1) = 100 ∧ (0 : Int) ≤ x1 ∧ x1 < c (c x0 8) (-2) then
                            if (c (c x0 8) x1) = 1 then
                              some (1, c)
                            else
                              some (0, c)
                          else none
                        else none
                    else none
                  else none
                else
                  some (0, c)
              else none
            else none
          else
            some (0, c)
        else none
    else
      some (0, c) := (zrun_s zt40).trans (zf_X3_asksAhead _ _ x0 x1 x2 c)
set_option maxRecDepth 100000 in
theorem zf_X3_asksAhead_94 (call : zCall) (K : zK) (x0 x1 x2 x3 x4 x5 x6 : Int) (c : zC) : zseg zc_X3_asksAhead zk_X3_asksAhead call K 1000 94 [(2, x0), (0, x1), (0, x2), (0, x3), (0, x4), (0, x5), (0, x6), (3, 0)] [] c =
  if x6 < 0 then
    if x4 = (-5) then
      K 206 [(2, x0), (0, x1), (3, 0), (0, x3), (3, 0), (0, x5), (3, 0), (3, 0)] [(0, 0)] c
    else
      if c x0 (-1) = 4 then
        if (zsub (zsub x1 x4) 1) < (c x0 11) then
          K 206 [(2, x0), (0, x1), (3, 0), (0, x3), (3, 0), (0, x5), (3, 0), (3, 0)] [(0, 1)] c
        else
          K 206 [(2, x0), (0, x1), (3, 0), (0, x3), (3, 0), (0, x5), (3, 0), (3, 0)] [(0, 0)] c
      else none
  else
    zbnd (call 40 [x0, x6, zadd x2 1] c) (fun v1 c2 =>
      if v1 = 0 then
        K 94 [(2, x0), (0, x1), (0, x2), (0, x3), (0, x4), (0, x5), (0, zw (x6 + (-1))), (3, 0)] [] c2
      else
        if c2 x0 (-1) = 4 then
          zbnd (call 24 [x0, x6] c2) (fun v3 c4 =>
            if c4 x0 (-1) = 4 then
              zbnd (call 24 [x0, x1] c4) (fun v5 c6 =>
                if v3 = v5 then
                  if x5 = 0 then
                    if c6 x0 (-1) = 4 then
                      zbnd (call 26 [x0, x6] c6) (fun v7 c8 =>
                        if c8 x0 (-1) = 4 then
                          zbnd (call 26 [x0, x1] c8) (fun v9 c10 =>
                            if v7 = v9 then
                              K 94 [(2, x0), (0, x1), (0, x2), (0, zw (x3 + 1)), (0, zmax x4 x6), (0, 1), (0, zw (x6 + (-1))), (3, 0)] [] c10
                            else
                              K 94 [(2, x0), (0, x1), (0, x2), (0, zw (x3 + 1)), (0, zmax x4 x6), (0, 0), (0, zw (x6 + (-1))), (3, 0)] [] c10)
                        else none)
                    else none
                  else
                    K 94 [(2, x0), (0, x1), (0, x2), (0, zw (x3 + 1)), (0, zmax x4 x6), (0, 1), (0, zw (x6 + (-1))), (3, 0)] [] c6
                else
                  if x5 = 0 then
                    K 94 [(2, x0), (0, x1), (0, x2), (0, zw (x3 + 1)), (0, zmax x4 x6), (0, 0), (0, zw (x6 + (-1))), (3, 0)] [] c6
                  else
                    K 94 [(2, x0), (0, x1), (0, x2), (0, zw (x3 + 1)), (0, zmax x4 x6), (0, 1), (0, zw (x6 + (-1))), (3, 0)] [] c6)
            else none)
        else none) := by rfl
theorem ze_X3_asksAhead_94 (d F : Nat) (x0 x1 x2 x3 x4 x5 x6 : Int) (c : zC) : zex zc_X3_asksAhead zk_X3_asksAhead (zrun zTab d) (F + 1) 94 [(2, x0), (0, x1), (0, x2), (0, x3), (0, x4), (0, x5), (0, x6), (3, 0)] [] c =
  if x6 < 0 then
    if x4 = (-5) then
      zex zc_X3_asksAhead zk_X3_asksAhead (zrun zTab d) F 206 [(2, x0), (0, x1), (3, 0), (0, x3), (3, 0), (0, x5), (3, 0), (3, 0)] [(0, 0)] c
    else
      if c x0 (-1) = 4 then
        if (zsub (zsub x1 x4) 1) < (c x0 11) then
          zex zc_X3_asksAhead zk_X3_asksAhead (zrun zTab d) F 206 [(2, x0), (0, x1), (3, 0), (0, x3), (3, 0), (0, x5), (3, 0), (3, 0)] [(0, 1)] c
        else
          zex zc_X3_asksAhead zk_X3_asksAhead (zrun zTab d) F 206 [(2, x0), (0, x1), (3, 0), (0, x3), (3, 0), (0, x5), (3, 0), (3, 0)] [(0, 0)] c
      else none
  else
    zbnd (zrun zTab d 40 [x0, x6, zadd x2 1] c) (fun v1 c2 =>
      if v1 = 0 then
        zex zc_X3_asksAhead zk_X3_asksAhead (zrun zTab d) F 94 [(2, x0), (0, x1), (0, x2), (0, x3), (0, x4), (0, x5), (0, zw (x6 + (-1))), (3, 0)] [] c2
      else
        if c2 x0 (-1) = 4 then
          zbnd (zrun zTab d 24 [x0, x6] c2) (fun v3 c4 =>
            if c4 x0 (-1) = 4 then
              zbnd (zrun zTab d 24 [x0, x1] c4) (fun v5 c6 =>
                if v3 = v5 then
                  if x5 = 0 then
                    if c6 x0 (-1) = 4 then
                      zbnd (zrun zTab d 26 [x0, x6] c6) (fun v7 c8 =>
                        if c8 x0 (-1) = 4 then
                          zbnd (zrun zTab d 26 [x0, x1] c8) (fun v9 c10 =>
                            if v7 = v9 then
                              zex zc_X3_asksAhead zk_X3_asksAhead (zrun zTab d) F 94 [(2, x0), (0, x1), (0, x2), (0, zw (x3 + 1)), (0, zmax x4 x6), (0, 1), (0, zw (x6 + (-1))), (3, 0)] [] c10
                            else
                              zex zc_X3_asksAhead zk_X3_asksAhead (zrun zTab d) F 94 [(2, x0), (0, x1), (0, x2), (0, zw (x3 + 1)), (0, zmax x4 x6), (0, 0), (0, zw (x6 + (-1))), (3, 0)] [] c10)
                        else none)
                    else none
                  else
                    zex zc_X3_asksAhead zk_X3_asksAhead (zrun zTab d) F 94 [(2, x0), (0, x1), (0, x2), (0, zw (x3 + 1)), (0, zmax x4 x6), (0, 1), (0, zw (x6 + (-1))), (3, 0)] [] c6
                else
                  if x5 = 0 then
                    zex zc_X3_asksAhead zk_X3_asksAhead (zrun zTab d) F 94 [(2, x0), (0, x1), (0, x2), (0, zw (x3 + 1)), (0, zmax x4 x6), (0, 0), (0, zw (x6 + (-1))), (3, 0)] [] c6
                  else
                    zex zc_X3_asksAhead zk_X3_asksAhead (zrun zTab d) F 94 [(2, x0), (0, x1), (0, x2), (0, zw (x3 + 1)), (0, zmax x4 x6), (0, 1), (0, zw (x6 + (-1))), (3, 0)] [] c6)
            else none)
        else none) := zf_X3_asksAhead_94 _ _ x0 x1 x2 x3 x4 x5 x6 c
set_option maxRecDepth 100000 in
theorem zf_X3_asksAhead_206 (call : zCall) (K : zK) (x0 x1 x3 x5 s0 : Int) (c : zC) : zseg zc_X3_asksAhead zk_X3_asksAhead call K 1000 206 [(2, x0), (0, x1), (3, 0), (0, x3), (3, 0), (0, x5), (3, 0), (3, 0)] [(0, s0)] c =
  if x5 = 0 then
    if s0 = 0 then
      if c x0 (-1) = 4 then
        if x3 < (c x0 12) then
          if c x0 (-1) = 4 then
            if c (c x0 8) (-1) = 100 ∧ (0 : Int) ≤ x1 ∧ x1 < c (c x0 8) (-2) then
              some (1, zup c (c x0 8) x1 1)
            else none
          else none
        else
          K 226 [(2, x0), (0, x1), (3, 0), (3, 0), (3, 0), (3, 0), (3, 0), (3, 0)] [] c
      else none
    else
      K 226 [(2, x0), (0, x1), (3, 0), (3, 0), (3, 0), (3, 0), (3, 0), (3, 0)] [] c
  else
    K 226 [(2, x0), (0, x1), (3, 0), (3, 0), (3, 0), (3, 0), (3, 0), (3, 0)] [] c := by rfl
theorem ze_X3_asksAhead_206 (d F : Nat) (x0 x1 x3 x5 s0 : Int) (c : zC) : zex zc_X3_asksAhead zk_X3_asksAhead (zrun zTab d) (F + 1) 206 [(2, x0), (0, x1), (3, 0), (0, x3), (3, 0), (0, x5), (3, 0), (3, 0)] [(0, s0)] c =
  if x5 = 0 then
    if s0 = 0 then
      if c x0 (-1) = 4 then
        if x3 < (c x0 12) then
          if c x0 (-1) = 4 then
            if c (c x0 8) (-1) = 100 ∧ (0 : Int) ≤ x1 ∧ x1 < c (c x0 8) (-2) then
              some (1, zup c (c x0 8) x1 1)
            else none
          else none
        else
          zex zc_X3_asksAhead zk_X3_asksAhead (zrun zTab d) F 226 [(2, x0), (0, x1), (3, 0), (3, 0), (3, 0), (3, 0), (3, 0), (3, 0)] [] c
      else none
    else
      zex zc_X3_asksAhead zk_X3_asksAhead (zrun zTab d) F 226 [(2, x0), (0, x1), (3, 0), (3, 0), (3, 0), (3, 0), (3, 0), (3, 0)] [] c
  else
    zex zc_X3_asksAhead zk_X3_asksAhead (zrun zTab d) F 226 [(2, x0), (0, x1), (3, 0), (3, 0), (3, 0), (3, 0), (3, 0), (3, 0)] [] c := zf_X3_asksAhead_206 _ _ x0 x1 x3 x5 s0 c
set_option maxRecDepth 100000 in
theorem zf_X3_asksAhead_226 (call : zCall) (K : zK) (x0 x1 : Int) (c : zC) : zseg zc_X3_asksAhead zk_X3_asksAhead call K 1000 226 [(2, x0), (0, x1), (3, 0), (3, 0), (3, 0), (3, 0), (3, 0), (3, 0)] [] c =
  if c x0 (-1) = 4 then
    if c (c x0 8) (-1) = 100 ∧ (0 : Int) ≤ x1 ∧ x1 < c (c x0 8) (-2) then
      some (0, zup c (c x0 8) x1 2)
    else none
  else none := by rfl
theorem ze_X3_asksAhead_226 (d F : Nat) (x0 x1 : Int) (c : zC) : zex zc_X3_asksAhead zk_X3_asksAhead (zrun zTab d) (F + 1) 226 [(2, x0), (0, x1), (3, 0), (3, 0), (3, 0), (3, 0), (3, 0), (3, 0)] [] c =
  if c x0 (-1) = 4 then
    if c (c x0 8) (-1) = 100 ∧ (0 : Int) ≤ x1 ∧ x1 < c (c x0 8) (-2) then
      some (0, zup c (c x0 8) x1 2)
    else none
  else none := zf_X3_asksAhead_226 _ _ x0 x1 c
