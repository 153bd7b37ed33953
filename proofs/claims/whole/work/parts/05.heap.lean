/-! The picture of the heap: each cell of the small machine's heap is a cell of the real one, in the order in which they are made. -/
/-- the kinds of the fields of class number ci (its place in vwCl) -/
def zFT : Nat → List Nat
  | 0 => [2, 2, 0]
  | 1 => [2, 2, 0, 0, 0]
  | 2 => [2, 0]
  | 3 => [2, 2, 2, 2, 2, 2, 2, 2, 2, 2, 0, 0, 0, 0]
  | 4 => [2, 2, 0, 0]
  | 5 => [0, 0, 0, 0]
  | 6 => [1, 1, 0, 0]
  | 7 => [1, 2, 0, 0]
  | 8 => [2, 2, 2, 0, 0, 0, 0]
  | 9 => [2, 0, 0, 0, 0, 2, 2, 2, 1]
  | 10 => [2, 2, 2, 0, 2, 2, 2]
  | 11 => [2, 0, 0, 2, 0, 0, 0, 0, 0, 2, 0, 2, 2, 2, 2, 2, 2, 2, 2, 2, 2, 2, 0, 2, 0, 0, 0, 0, 2]
  | _ => []
def ztg : FieldType → Nat
  | .long => 1
  | .object _ | .array _ => 2
  | _ => 0
def zfl (V : zTV → Value) (g : Nat → Int) : Nat → List Nat → List Value
  | _, [] => []
  | k, t :: ts => V (t, g k) :: zfl V g (k + 1) ts
theorem zfl_get {V : zTV → Value} {g : Nat → Int} {ts : List Nat} {i k : Nat} : (zfl V g i ts)[k]? = (ts[k]?).map (fun t => V (t, g (i + k))) := by
  induction ts generalizing i k with
  | nil => rfl
  | cons t ts ih =>
    cases k with
    | zero => rfl
    | succ k =>
      show (zfl V g (i + 1) ts)[k]? = (ts[k]?).map _
      rw [ih, show i + 1 + k = i + (k + 1) by omega]
theorem zfl_len {V : zTV → Value} {g : Nat → Int} {ts : List Nat} {i : Nat} : (zfl V g i ts).length = ts.length := by
  induction ts generalizing i with
  | nil => rfl
  | cons t ts ih => show _ + 1 = _; rw [ih]; rfl
theorem zfl_set {V : zTV → Value} {g g' : Nat → Int} {ts : List Nat} {k : Nat} {v : Value} (hg : ∀ j, j ≠ k → g' j = g j) (hv : ∀ t, ts[k]? = some t → V (t, g' k) = v) : (zfl V g 0 ts).set k v = zfl V g' 0 ts := by
  apply List.ext_getElem?
  intro j
  rw [List.getElem?_set, zfl_get, zfl_get, zfl_len]
  by_cases h : k = j
  · subst h
    rw [if_pos rfl]
    by_cases h2 : k < ts.length
    · rw [if_pos h2, List.getElem?_eq_getElem h2]
      simp only [Nat.zero_add, Option.map_some]
      rw [hv _ (List.getElem?_eq_getElem h2)]
    · rw [if_neg h2, List.getElem?_eq_none (by omega)]
      rfl
  · rw [if_neg h, Nat.zero_add, hg j (fun e => h e.symm)]
/-- what is known of a valid kind -/
def zkd (k : Int) : Prop := (1 ≤ k ∧ k ≤ 12) ∨ k = 100 ∨ k = 101 ∨ k = 102 ∨ (110 ≤ k ∧ k ≤ 121)
/-- what a place of a cell of kind k may hold -/
def zsl (k j x : Int) : Prop := 0 ≤ j → ((k = 100 ∨ k = 102) → zin32 x) ∧ (k = 101 → zin64 x) ∧ (1 ≤ k → k ≤ 12 → ((zFT (k - 1).toNat)[j.toNat]? = some 0 → zin32 x) ∧ ((zFT (k - 1).toNat)[j.toNat]? = some 1 → zin64 x))
theorem zsl_0 (k j : Int) : zsl k j 0 := fun _ => ⟨fun _ => zin32_0, fun _ => ⟨by decide, by decide⟩, fun _ _ => ⟨fun _ => zin32_0, fun _ => ⟨by decide, by decide⟩⟩⟩
def zwf (L : Nat) (xs : Nat → Int32) (c : zC) : Prop := 2 ≤ c 0 0 ∧ 0 ≤ c 0 1 ∧ (∀ a, (c 0 0 ≤ a ∨ a < 0) → ∀ j, c a j = 0) ∧ c 0 (-1) = 0 ∧ c 1 (-1) = 99 ∧ (∀ a, 2 ≤ a → a < c 0 0 → zkd (c a (-1))) ∧ (∀ a, 2 ≤ a → 0 ≤ c a (-2) ∧ c a (-2) ≤ 20000) ∧ (∀ a j, 2 ≤ a → zsl (c a (-1)) j (c a j)) ∧
  c 1 (-2) = (L : Int) ∧ L ≤ 3584 ∧ (∀ j : Nat, j < L → c 1 (j : Int) = (xs j).toInt)
theorem zwf_a {L : Nat} {xs : Nat → Int32} {c : zC} (h : zwf L xs c) {a : Int} (ha : zkd (c a (-1))) : 2 ≤ a ∧ a < c 0 0 := by
  obtain ⟨h1, -, h2, h3, h4, -⟩ := h
  unfold zkd at ha
  have n0 : a ≠ 0 := by rintro rfl; omega
  have n1 : a ≠ 1 := by rintro rfl; omega
  by_cases hn : c 0 0 ≤ a ∨ a < 0
  · have := h2 a hn (-1); omega
  · omega
theorem zup_o {c : zC} {a k v b j : Int} (h : b ≠ a ∨ j ≠ k) : zup c a k v b j = c b j := by
  unfold zup; rw [if_neg (by omega)]
theorem zup_s {c : zC} {a k v : Int} : zup c a k v a k = v := by
  unfold zup; rw [if_pos ⟨rfl, rfl⟩]
theorem zwf_up {L : Nat} {xs : Nat → Int32} {c : zC} (h : zwf L xs c) {a k v : Int} (ha : zkd (c a (-1))) (hk : 0 ≤ k) (hv : zsl (c a (-1)) k v) : zwf L xs (zup c a k v) := by
  obtain ⟨a1, a2⟩ := zwf_a h ha
  obtain ⟨h0, h1, h2, h3, h4, h5, h6, h7, h8, h9, h10⟩ := h
  have e0 : ∀ j, zup c a k v 0 j = c 0 j := fun j => zup_o (Or.inl (by omega))
  have e1 : ∀ j, zup c a k v 1 j = c 1 j := fun j => zup_o (Or.inl (by omega))
  have em : ∀ b j, j < 0 → zup c a k v b j = c b j := fun b j hj => zup_o (Or.inr (by omega))
  refine ⟨by rw [e0]; exact h0, by rw [e0]; exact h1, fun b hb j => ?_, by rw [e0]; exact h3, by rw [e1]; exact h4, fun b hb1 hb2 => ?_, fun b hb => ?_, fun b j hb => ?_, by rw [e1]; exact h8, h9, fun j hj => by rw [e1]; exact h10 j hj⟩
  · rw [e0] at hb
    rw [zup_o (Or.inl (by omega))]
    exact h2 b hb j
  · rw [e0] at hb2
    rw [em _ _ (by decide)]
    exact h5 b hb1 hb2
  · rw [em _ _ (by decide)]
    exact h6 b hb
  · rw [em b (-1) (by decide)]
    by_cases e : b = a ∧ j = k
    · obtain ⟨rfl, rfl⟩ := e
      rw [zup_s]; exact hv
    · rw [zup_o (by omega)]
      exact h7 b j hb
theorem zwf_new {L : Nat} {xs : Nat → Int32} {c : zC} (h : zwf L xs c) {kd n : Int} (hk : zkd kd) (hn : 0 ≤ n) (hn2 : n ≤ 20000) : zwf L xs (znew c kd n) ∧ znew c kd n 0 0 = c 0 0 + 1 ∧ znew c kd n 0 1 = c 0 1 + n ∧ (∀ b, 1 ≤ b → b < c 0 0 → znew c kd n b = c b) := by
  obtain ⟨h0, h1, h2, h3, h4, h5, h6, h7, h8, h9, h10⟩ := h
  have e00 : znew c kd n 0 0 = c 0 0 + 1 := by unfold znew; rw [if_neg (by omega), if_pos ⟨rfl, rfl⟩]
  have e01 : znew c kd n 0 1 = c 0 1 + n := by unfold znew; rw [if_neg (by omega), if_neg (by omega), if_pos ⟨rfl, rfl⟩]
  have eb : ∀ b, b ≠ 0 → b ≠ c 0 0 → znew c kd n b = c b := fun b hb1 hb2 => by
    funext j; unfold znew; rw [if_neg hb2, if_neg (by omega), if_neg (by omega)]
  have en : ∀ j, znew c kd n (c 0 0) j = if j = -1 then kd else if j = -2 then n else 0 := fun j => by unfold znew; rw [if_pos rfl]
  refine ⟨⟨by omega, by omega, fun b hb j => ?_, ?_, ?_, fun b hb1 hb2 => ?_, fun b hb => ?_, fun b j hb => ?_, ?_, h9, fun j hj => ?_⟩, e00, e01, fun b b1 b2 => eb b (by omega) (by omega)⟩
  · rw [e00] at hb
    rw [eb b (by omega) (by omega)]
    exact h2 b (by omega) j
  · unfold znew; rw [if_neg (by omega), if_neg (by omega), if_neg (by omega)]; exact h3
  · rw [eb 1 (by decide) (by omega)]; exact h4
  · rw [e00] at hb2
    by_cases e : b = c 0 0
    · rw [e, en, if_pos rfl]; exact hk
    · rw [eb b (by omega) e]; exact h5 b hb1 (by omega)
  · by_cases e : b = c 0 0
    · rw [e, en, if_neg (by decide), if_pos rfl]; exact ⟨hn, hn2⟩
    · rw [eb b (by omega) e]; exact h6 b hb
  · by_cases e : b = c 0 0
    · rw [e, en, en, if_pos rfl]
      intro hj
      rw [if_neg (by omega), if_neg (by omega)]
      exact zsl_0 kd j hj
    · rw [eb b (by omega) e]; exact h7 b j hb
  · rw [eb 1 (by decide) (by omega)]; exact h8
  · rw [eb 1 (by decide) (by omega)]; exact h10 j hj
theorem zwf_copy {L : Nat} {xs : Nat → Int32} {c : zC} (h : zwf L xs c) {s sp d dp n : Int} (hs : zkd (c s (-1))) (he : c d (-1) = c s (-1)) (hk : c s (-1) = 100 ∨ c s (-1) = 101) (h1 : 0 ≤ sp) (h2 : 0 ≤ dp) : zwf L xs (zcopy c s sp d dp n) ∧ (∀ b, b ≠ d → zcopy c s sp d dp n b = c b) := by
  obtain ⟨a1, a2⟩ := zwf_a h hs
  obtain ⟨b1, b2⟩ := zwf_a h (a := d) (by rw [he]; exact hs)
  obtain ⟨g0, g1, g2, g3, g4, g5, g6, g7, g8, g9, g10⟩ := h
  have eo : ∀ b, b ≠ d → zcopy c s sp d dp n b = c b := fun b hb => by
    funext j; unfold zcopy; rw [if_neg (by omega)]
  have em : ∀ b j, j < 0 → zcopy c s sp d dp n b j = c b j := fun b j hj => by unfold zcopy; rw [if_neg (by omega)]
  refine ⟨⟨by rw [eo 0 (by omega)]; exact g0, by rw [eo 0 (by omega)]; exact g1, fun b hb j => ?_, by rw [eo 0 (by omega)]; exact g3, by rw [eo 1 (by omega)]; exact g4, fun b hb1 hb2 => ?_, fun b hb => ?_, fun b j hb => ?_, by rw [eo 1 (by omega)]; exact g8, g9, fun j hj => by rw [eo 1 (by omega)]; exact g10 j hj⟩, eo⟩
  · rw [eo 0 (by omega)] at hb
    rw [eo b (by omega)]
    exact g2 b hb j
  · rw [eo 0 (by omega)] at hb2
    rw [em _ _ (by decide)]
    exact g5 b hb1 hb2
  · rw [em _ _ (by decide)]
    exact g6 b hb
  · rw [em b (-1) (by decide)]
    by_cases e : b = d ∧ dp ≤ j ∧ j < dp + n
    · obtain ⟨rfl, e1, e2⟩ := e
      unfold zcopy
      rw [if_pos ⟨rfl, e1, e2⟩, he]
      intro _
      have := g7 s (sp + (j - dp)) a1 (by omega)
      exact ⟨this.1, this.2.1, fun q1 q2 => by omega⟩
    · have : zcopy c s sp d dp n b j = c b j := by unfold zcopy; rw [if_neg e]
      rw [this]; exact g7 b j hb
/-- what a cell holds, by its kind -/
def zce (b b0 : Nat) (cy : Nat → ClassId) (c : Int → Int) : va_E :=
  if c (-1) = 100 then .inl (cy 0, (c (-2)).toNat, .inl (fun j => Int32.ofInt (c (j : Int))))
  else if c (-1) = 101 then .inl (cy 1, (c (-2)).toNat, .inr (.inl (fun j => Int64.ofInt (c (j : Int)))))
  else if c (-1) = 102 then .inl (cy 2, (c (-2)).toNat, .inl (fun j => Int32.ofInt (c (j : Int))))
  else if 110 ≤ c (-1) then .inl (cy (c (-1) - 107).toNat, (c (-2)).toNat, .inr (.inr (.inr (.inr (fun j => zrf b b0 (c (j : Int)))))))
  else .inr ((c (-1) - 1).toNat, zfl (zV b b0) (fun k => c (k : Int)) 0 (zFT (c (-1) - 1).toNat))
theorem zce_100 {b b0 : Nat} {cy : Nat → ClassId} {c : Int → Int} (h : c (-1) = 100) : zce b b0 cy c = .inl (cy 0, (c (-2)).toNat, .inl (fun j => Int32.ofInt (c (j : Int)))) := by unfold zce; rw [if_pos h]
theorem zce_101 {b b0 : Nat} {cy : Nat → ClassId} {c : Int → Int} (h : c (-1) = 101) : zce b b0 cy c = .inl (cy 1, (c (-2)).toNat, .inr (.inl (fun j => Int64.ofInt (c (j : Int))))) := by unfold zce; rw [if_neg (by omega), if_pos h]
theorem zce_102 {b b0 : Nat} {cy : Nat → ClassId} {c : Int → Int} (h : c (-1) = 102) : zce b b0 cy c = .inl (cy 2, (c (-2)).toNat, .inl (fun j => Int32.ofInt (c (j : Int)))) := by unfold zce; rw [if_neg (by omega), if_neg (by omega), if_pos h]
theorem zce_r {b b0 : Nat} {cy : Nat → ClassId} {c : Int → Int} {n : Nat} (h : c (-1) = 110 + (n : Int)) : zce b b0 cy c = .inl (cy (3 + n), (c (-2)).toNat, .inr (.inr (.inr (.inr (fun j => zrf b b0 (c (j : Int))))))) := by
  unfold zce; rw [if_neg (by omega), if_neg (by omega), if_neg (by omega), if_pos (by omega), show (c (-1) - 107).toNat = 3 + n by omega]
theorem zce_o {b b0 : Nat} {cy : Nat → ClassId} {c : Int → Int} {n : Nat} (h : c (-1) = (n : Int) + 1) (hn : n < 12) : zce b b0 cy c = .inr (n, zfl (zV b b0) (fun k => c (k : Int)) 0 (zFT n)) := by
  unfold zce; rw [if_neg (by omega), if_neg (by omega), if_neg (by omega), if_neg (by omega), show (c (-1) - 1).toNat = n by omega]
def zws (b b0 : Nat) (cy : Nat → ClassId) (c : zC) : va_W := (List.range (c 0 0 - 2).toNat).map (fun k => (b0 + k, zce b b0 cy (c ((k : Int) + 2))))
theorem zws_get {b b0 : Nat} {cy : Nat → ClassId} {c : zC} {a : Int} (h1 : 2 ≤ a) (h2 : a < c 0 0) : (zws b b0 cy c)[(a - 2).toNat]? = some (zro b b0 a, zce b b0 cy (c a)) := by
  unfold zws
  rw [List.getElem?_map, List.getElem?_range (by omega), zro_2 h1]
  simp only [Option.map_some]
  rw [show (((a - 2).toNat : Nat) : Int) + 2 = a by omega]
theorem zws_at {b b0 : Nat} {cy : Nat → ClassId} {c : zC} {k : Nat} {q : Nat × va_E} (h : (zws b b0 cy c)[k]? = some q) : k < (c 0 0 - 2).toNat ∧ q = (b0 + k, zce b b0 cy (c ((k : Int) + 2))) := by
  unfold zws at h
  have hk : k < (c 0 0 - 2).toNat := by
    have := (List.getElem?_eq_some_iff.mp h).1
    simpa using this
  rw [List.getElem?_map, List.getElem?_range hk] at h
  exact ⟨hk, (Option.some.inj h).symm⟩
theorem zws_set {b b0 : Nat} {cy : Nat → ClassId} {c c' : zC} {a : Int} (h1 : 2 ≤ a) (e0 : c' 0 0 = c 0 0) (eo : ∀ b, 2 ≤ b → b ≠ a → c' b = c b) {e : va_E} (he : e = zce b b0 cy (c' a)) : (zws b b0 cy c).set (a - 2).toNat (zro b b0 a, e) = zws b b0 cy c' := by
  subst he
  apply List.ext_getElem?
  intro k
  rw [List.getElem?_set]
  unfold zws
  rw [e0]
  simp only [List.length_map, List.length_range, List.getElem?_map]
  by_cases h : (a - 2).toNat = k
  · rw [if_pos h]
    by_cases hk : k < (c 0 0 - 2).toNat
    · rw [if_pos (by omega), List.getElem?_range hk, zro_2 h1]
      simp only [Option.map_some]
      rw [h, show (k : Int) + 2 = a by omega]
    · rw [if_neg (by omega), List.getElem?_eq_none (by simp; omega)]
      rfl
  · rw [if_neg h]
    by_cases hk : k < (c 0 0 - 2).toNat
    · rw [List.getElem?_range hk]
      simp only [Option.map_some]
      rw [eo _ (by omega) (by omega)]
    · rw [List.getElem?_eq_none (by simp; omega)]
      rfl
theorem zws_new {b b0 : Nat} {cy : Nat → ClassId} {c c' : zC} (h0 : 2 ≤ c 0 0) (e0 : c' 0 0 = c 0 0 + 1) (eo : ∀ b, 1 ≤ b → b < c 0 0 → c' b = c b) : zws b b0 cy c' = zws b b0 cy c ++ [(b0 + (c 0 0 - 2).toNat, zce b b0 cy (c' (c 0 0)))] := by
  unfold zws
  rw [e0, show (c 0 0 + 1 - 2).toNat = (c 0 0 - 2).toNat + 1 by omega, List.range_succ, List.map_append]
  congr 1
  · apply List.map_congr_left
    intro k hk
    have := List.mem_range.mp hk
    rw [eo _ (by omega) (by omega)]
  · simp only [List.map_cons, List.map_nil]
    rw [show (((c 0 0 - 2).toNat : Nat) : Int) + 2 = c 0 0 by omega]
theorem zws_D {b b0 : Nat} {cy : Nat → ClassId} {c : zC} : va_D (fun q => b0 ≤ q) (zws b b0 cy c) := by
  refine ⟨fun i j p q hi hj e => ?_, fun k q hk => ?_⟩
  · obtain ⟨-, rfl⟩ := zws_at hi
    obtain ⟨-, rfl⟩ := zws_at hj
    simp at e
    omega
  · obtain ⟨-, rfl⟩ := zws_at hk
    simp
-- what the tables say
/-- the words that are no words of the tables of a callee: nest mates' links -/
abbrev zN : Type := String × Nat × MethodName × String
def zKn (NW : List zN) (AO : List String) (TY : List (Nat × FieldType)) (D : va_G) (cy : Nat → ClassId) (U : State) : Prop :=
  va_K D vwCl (TY.map fun q => (cy q.1, q.2)) U ∧ (∀ q ∈ NW, va_Nw (.methodLinkNest q.1 q.2.1 q.2.2.1 q.2.2.2) U) ∧ (∀ C ∈ AO, va_AO C U)
theorem zKn.moved {NW : List zN} {AO : List String} {TY : List (Nat × FieldType)} {D : va_G} {cy : Nat → ClassId} {s U : State} (hW : s.WarmedH U.vm) (h : zKn NW AO TY D cy s) : zKn NW AO TY D cy U :=
  ⟨va_K.moved hW.alike h.1, fun q hq => va_Nw.warmM hW (h.2.1 q hq), fun C hC => va_AO.moved hW.alike (h.2.2 C hC)⟩
theorem zKn.same {NW : List zN} {AO : List String} {TY : List (Nat × FieldType)} {D : va_G} {cy : Nat → ClassId} {s U : State} (hW : s.vm = U.vm) (h : zKn NW AO TY D cy s) : zKn NW AO TY D cy U :=
  ⟨va_K.moved (by rw [← hW]; exact Vm.Alike.refl _) h.1, fun q hq => va_Nw.same rfl hW (h.2.1 q hq), fun C hC => va_AO.moved (by rw [← hW]; exact Vm.Alike.refl _) (h.2.2 C hC)⟩
