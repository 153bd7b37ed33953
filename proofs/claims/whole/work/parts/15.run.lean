/-! A run's first steps. -/
theorem zex_s (code : Nat → zIns) (cuts : Nat → Option (List Bool)) (call : zCall) (F : Nat) : zex code cuts call (F + 1) = zseg code cuts call (zex code cuts call F) 1000 := rfl
theorem zrun_s {d mi : Nat} {as : List Int} {c : zC} {q : zT} (hq : zTab mi = q) : zrun zTab (d + 1) mi as c = zseg q.2.2.2.2.2.1 q.2.2.2.2.2.2 (zrun zTab d) (zex q.2.2.2.2.2.1 q.2.2.2.2.2.2 (zrun zTab d) 19999) 1000 0 (zpad q.2.2.1 (zent q.2.2.2.2.1 as)) [] c := by
  subst hq
  show zex _ _ _ (19999 + 1) 0 _ _ _ = _
  rw [zex_s]
