/-! The claim out of what the small machine makes of the law. -/
/-- the heap at the law's start: the script at address 1 -/
def zc0 (L : Nat) (xs : Nat → Int32) : zC := fun a j => if a = 0 then (if j = 0 then 2 else 0) else if a = 1 then (if j = -1 then 99 else if j = -2 then (L : Int) else if 0 ≤ j ∧ j < (L : Int) then (xs j.toNat).toInt else 0) else 0
theorem zc0_wf {L : Nat} {xs : Nat → Int32} (hL : L ≤ 3584) : zwf L xs (zc0 L xs) := by
  have e0 : zc0 L xs 0 0 = 2 := rfl
  have e1 : ∀ a j, 2 ≤ a → zc0 L xs a j = 0 := fun a j h => by unfold zc0; rw [if_neg (by omega), if_neg (by omega)]
  have e2 : ∀ a j, a < 0 → zc0 L xs a j = 0 := fun a j h => by unfold zc0; rw [if_neg (by omega), if_neg (by omega)]
  refine ⟨by rw [e0]; decide, Int.le_refl 0, fun a h j => ?_, rfl, rfl, fun a h1 h2 => ?_, fun a h => ?_, fun a j h => ?_, rfl, hL, fun j hj => ?_⟩
  · rw [e0] at h
    rcases h with h | h
    · exact e1 a j h
    · exact e2 a j h
  · rw [e0] at h2; omega
  · rw [e1 a _ h]; decide
  · rw [e1 a _ h, e1 a _ h]; exact zsl_0 0 j
  · unfold zc0
    rw [if_neg (by decide), if_pos rfl, if_neg (by omega), if_neg (by omega), if_pos (by omega)]
    simp
/-- what is wanted of the small machine -/
def zLaw : Prop := ∀ (L : Nat) (xs : Nat → Int32), L ≤ 3584 → ∃ (d : Nat) (c' : zC), d ≤ 900 ∧ zrunM (zc_L_law, zk_L_law, [2], 4) (zrun zTab d) [1] (zc0 L xs) = some (1, c') ∧ c' 0 0 ≤ 600002 ∧ c' 0 1 ≤ 7302250
theorem zAO_ok {s : State} {args : Array Value} (hts : ∀ w ∈ lw_tbl, w.before args s = true) : ∀ C ∈ zAO, va_AO C s := by
  intro C hC
  have key : Cond.arrayOver (.object C) ∈ tables_1 := by
    simp only [zAO, List.mem_cons, List.not_mem_nil, or_false] at hC
    rcases hC with rfl | rfl | rfl | rfl | rfl | rfl
    · exact List.mem_append_left _ (List.mem_of_getElem? (i := 236) rfl)
    · exact List.mem_append_left _ (List.mem_of_getElem? (i := 202) rfl)
    · exact List.mem_append_left _ (List.mem_of_getElem? (i := 146) rfl)
    · exact List.mem_append_left _ (List.mem_of_getElem? (i := 150) rfl)
    · exact List.mem_append_left _ (List.mem_of_getElem? (i := 148) rfl)
    · exact List.mem_append_left _ (List.mem_of_getElem? (i := 191) rfl)
  exact va_AO.of (hts _ (List.mem_append_right _ key))
theorem zNW_ok {s : State} {args : Array Value} (hts : ∀ w ∈ lw_tbl, w.before args s = true) : ∀ q ∈ zNW, va_Nw (.methodLinkNest q.1 q.2.1 q.2.2.1 q.2.2.2) s := by
  intro q hq
  have key : Cond.methodLinkNest q.1 q.2.1 q.2.2.1 q.2.2.2 ∈ tables_1 := by
    simp only [zNW, List.mem_cons, List.not_mem_nil, or_false] at hq
    rcases hq with rfl | rfl | rfl | rfl | rfl | rfl | rfl | rfl | rfl | rfl
    · exact List.mem_append_left _ (List.mem_of_getElem? (i := 26) rfl)
    · exact List.mem_append_left _ (List.mem_of_getElem? (i := 32) rfl)
    · exact List.mem_append_left _ (List.mem_of_getElem? (i := 58) rfl)
    · exact List.mem_append_left _ (List.mem_of_getElem? (i := 87) rfl)
    · exact List.mem_append_left _ (List.mem_of_getElem? (i := 151) rfl)
    · exact List.mem_append_left _ (List.mem_of_getElem? (i := 152) rfl)
    · exact List.mem_append_left _ (List.mem_of_getElem? (i := 153) rfl)
    · exact List.mem_append_left _ (List.mem_of_getElem? (i := 205) rfl)
    · exact List.mem_append_left _ (List.mem_of_getElem? (i := 239) rfl)
    · exact List.mem_append_right _ (List.mem_append_left _ (List.mem_of_getElem? (i := 19) rfl))
  exact va_Nw.of rfl (hts _ (List.mem_append_right _ key))
theorem zTY_p {s : State} {args : Array Value} {ty : FieldType} (hr : ∀ C, ty ≠ .object C) (h : (Cond.arrayClass ty).before args s = true) : ∃ cA, ArrOfT s cA ty ∧ va_RA s cA ty := by
  obtain ⟨c, k, comp, h1, h2, h3⟩ := Cond.arrayClass_spec h
  refine ⟨c, fun n z => ⟨(fun k h => by cases h), k, h2, comp, h3⟩, ?_⟩
  cases ty <;> first | exact h1 | exact absurd rfl (hr _)
theorem zTY_r {s : State} {args : Array Value} {C : String} (h : (Cond.arrayOver (.object C)).before args s = true) : ∃ cA, ArrOfT s cA (.object C) ∧ va_RA s cA (.object C) := by
  obtain ⟨comp, c, k, h1, -, h2, h3, h4⟩ := Cond.arrayOver_spec h
  exact ⟨c, fun n z => ⟨(fun k h => by cases h), k, h2, comp, h3⟩, k, comp, h2, h3, h1, h4⟩
theorem zKN_start {s : State} {args : Array Value} (hts : ∀ w ∈ lw_tbl, w.before args s = true) : ∃ (D : va_G) (cy : Nat → ClassId), zKN D cy s := by
  have hws : ∀ w ∈ zWS, w.before args s = true := fun w h => hts w (zWS_tbl w h)
  have hao := zAO_ok hts
  obtain ⟨c0, i0, k0⟩ := u_known (C := RX0) (T := TX0) (N := 3) (n := 3) hws zCI_0.2.2.1 (hws _ (zin_2 (w := Cond.instantiable RX0 3) (i := 18) rfl rfl))
  obtain ⟨c1, i1, k1⟩ := u_known (C := RX1) (T := TX1) (N := 5) (n := 5) hws zCI_1.2.2.1 (hws _ (zin_1 (w := Cond.instantiable RX1 5) (i := 204) rfl rfl))
  obtain ⟨c2, i2, k2⟩ := u_known (C := RX2) (T := TX2) (N := 2) (n := 2) hws zCI_2.2.2.1 (hws _ (zin_1 (w := Cond.instantiable RX2 2) (i := 185) rfl rfl))
  obtain ⟨c3, i3, k3⟩ := u_known (C := RX3) (T := TX3) (N := 14) (n := 14) hws zCI_3.2.2.1 (hws _ (zin_1 (w := Cond.instantiable RX3 14) (i := 230) rfl rfl))
  obtain ⟨c4, i4, k4⟩ := u_known (C := RX4) (T := TX4) (N := 4) (n := 4) hws zCI_4.2.2.1 (hws _ (zin_1 (w := Cond.instantiable RX4 4) (i := 31) rfl rfl))
  obtain ⟨c5, i5, k5⟩ := u_known (C := RX5) (T := TX5) (N := 4) (n := 4) hws zCI_5.2.2.1 (hws _ (zin_1 (w := Cond.instantiable RX5 4) (i := 238) rfl rfl))
  obtain ⟨c6, i6, k6⟩ := u_known (C := RX6) (T := TX6) (N := 4) (n := 4) hws zCI_6.2.2.1 (hws _ (zin_1 (w := Cond.instantiable RX6 4) (i := 86) rfl rfl))
  obtain ⟨c7, i7, k7⟩ := u_known (C := RX7) (T := TX7) (N := 4) (n := 4) hws zCI_7.2.2.1 (hws _ (zin_1 (w := Cond.instantiable RX7 4) (i := 57) rfl rfl))
  obtain ⟨c8, i8, k8⟩ := u_known (C := RX8) (T := TX8) (N := 7) (n := 7) hws zCI_8.2.2.1 (hws _ (zin_1 (w := Cond.instantiable RX8 7) (i := 140) rfl rfl))
  obtain ⟨c9, i9, k9⟩ := u_known (C := RX9) (T := TX9) (N := 9) (n := 9) hws zCI_9.2.2.1 (hws _ (zin_1 (w := Cond.instantiable RX9 9) (i := 25) rfl rfl))
  obtain ⟨c10, i10, k10⟩ := u_known (C := RX11) (T := TX11) (N := 7) (n := 7) hws zCI_10.2.2.1 (hws _ (zin_1 (w := Cond.instantiable RX11 7) (i := 17) rfl rfl))
  obtain ⟨c11, i11, k11⟩ := u_known (C := RX12) (T := TX12) (N := 29) (n := 29) hws zCI_11.2.2.1 (hws _ (zin_4 (w := Cond.instantiable RX12 29) (i := 149) rfl rfl))
  obtain ⟨cI, hI⟩ := zTY_p (ty := .int) (fun _ h => by cases h) (hws _ (zin_1 (w := Cond.arrayClass .int) (i := 54) rfl rfl))
  obtain ⟨cJ, hJ⟩ := zTY_p (ty := .long) (fun _ h => by cases h) (hws _ (zin_1 (w := Cond.arrayClass .long) (i := 55) rfl rfl))
  obtain ⟨cZ, hZ⟩ := zTY_p (ty := .boolean) (fun _ h => by cases h) (hws _ (zin_2 (w := Cond.arrayClass .boolean) (i := 17) rfl rfl))
  obtain ⟨r0, h0⟩ := zTY_r (va_AO.use (A := args) (hao RX0 (by simp [zAO])))
  obtain ⟨r3, h3⟩ := zTY_r (va_AO.use (A := args) (hao RX3 (by simp [zAO])))
  obtain ⟨r4, h4⟩ := zTY_r (va_AO.use (A := args) (hao RX4 (by simp [zAO])))
  obtain ⟨r6, h6⟩ := zTY_r (va_AO.use (A := args) (hao RX6 (by simp [zAO])))
  obtain ⟨r7, h7⟩ := zTY_r (va_AO.use (A := args) (hao RX7 (by simp [zAO])))
  obtain ⟨r8, h8⟩ := zTY_r (va_AO.use (A := args) (hao RX8 (by simp [zAO])))
  refine ⟨(fun k => match k with | 0 => c0 | 1 => c1 | 2 => c2 | 3 => c3 | 4 => c4 | 5 => c5 | 6 => c6 | 7 => c7 | 8 => c8 | 9 => c9 | 10 => c10 | _ => c11, fun k => match k with | 0 => i0 | 1 => i1 | 2 => i2 | 3 => i3 | 4 => i4 | 5 => i5 | 6 => i6 | 7 => i7 | 8 => i8 | 9 => i9 | 10 => i10 | _ => i11), fun k => match k with | 0 => cI | 1 => cJ | 2 => cZ | 3 => r0 | 6 => r3 | 7 => r4 | 9 => r6 | 10 => r7 | _ => r8, ⟨?_, ?_⟩, zNW_ok hts, hao⟩
  · intro k q hq
    match k, hq with
    | 0, hq => cases hq; exact k0
    | 1, hq => cases hq; exact k1
    | 2, hq => cases hq; exact k2
    | 3, hq => cases hq; exact k3
    | 4, hq => cases hq; exact k4
    | 5, hq => cases hq; exact k5
    | 6, hq => cases hq; exact k6
    | 7, hq => cases hq; exact k7
    | 8, hq => cases hq; exact k8
    | 9, hq => cases hq; exact k9
    | 10, hq => cases hq; exact k10
    | 11, hq => cases hq; exact k11
    | k + 12, hq => simp [vwCl] at hq
  · intro k q hq
    match k, hq with
    | 0, hq => cases hq; exact hI
    | 1, hq => cases hq; exact hJ
    | 2, hq => cases hq; exact hZ
    | 3, hq => cases hq; exact h0
    | 4, hq => cases hq; exact h3
    | 5, hq => cases hq; exact h4
    | 6, hq => cases hq; exact h6
    | 7, hq => cases hq; exact h7
    | 8, hq => cases hq; exact h8
    | k + 9, hq => simp [zTY] at hq
