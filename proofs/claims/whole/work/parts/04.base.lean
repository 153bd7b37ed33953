/-! What ties the small machine to the real one: kinds, ranges, the picture of the heap. -/
def zWS : List Cond := lw_tbl.filter goodWord
theorem zWS_tbl : ∀ w ∈ zWS, w ∈ lw_tbl := fun _ h => (List.mem_filter.mp h).1
theorem zWS_of {w : Cond} (h : w ∈ lw_tbl) (g : goodWord w = true) : w ∈ zWS := List.mem_filter.mpr ⟨h, g⟩
theorem zWS_good {ws : List Cond} (h : ∀ w ∈ ws, w ∈ zWS) : GoodIn zWS ws := fun w hw => ⟨h w hw, good_of_word (List.mem_filter.mp (h w hw)).2⟩
def zin32 (x : Int) : Prop := -2147483648 ≤ x ∧ x < 2147483648
def zin64 (x : Int) : Prop := -9223372036854775808 ≤ x ∧ x < 9223372036854775808
theorem z32_to {x : Int} (h : zin32 x) : (Int32.ofInt x).toInt = x := by
  obtain ⟨h1, h2⟩ := h
  rw [Int32.toInt_ofInt]
  show Int.bmod x 4294967296 = x
  exact Int.bmod_eq_of_le (by omega) (by omega)
theorem z64_to {x : Int} (h : zin64 x) : (Int64.ofInt x).toInt = x := by
  obtain ⟨h1, h2⟩ := h
  rw [Int64.toInt_ofInt]
  show Int.bmod x 18446744073709551616 = x
  exact Int.bmod_eq_of_le (by omega) (by omega)
theorem z32_in (x : Int32) : zin32 x.toInt := ⟨Int32.minValue_le_toInt x, by have := Int32.toInt_lt x; omega⟩
theorem z64_in (x : Int64) : zin64 x.toInt := ⟨by have := Int64.le_toInt x; omega, by have := Int64.toInt_lt x; omega⟩
theorem z32_of (x : Int32) : Int32.ofInt x.toInt = x := Int32.ofInt_toInt x
theorem z64_of (x : Int64) : Int64.ofInt x.toInt = x := Int64.ofInt_toInt x
theorem z32_eq {x y : Int} (hx : zin32 x) (hy : zin32 y) : Int32.ofInt x = Int32.ofInt y ↔ x = y := by
  rw [← Int32.toInt_inj, z32_to hx, z32_to hy]
theorem z32_lt {x y : Int} (hx : zin32 x) (hy : zin32 y) : Int32.ofInt x < Int32.ofInt y ↔ x < y := by
  rw [Int32.lt_iff_toInt_lt, z32_to hx, z32_to hy]
theorem z32_le {x y : Int} (hx : zin32 x) (hy : zin32 y) : Int32.ofInt x ≤ Int32.ofInt y ↔ x ≤ y := by
  rw [Int32.le_iff_toInt_le, z32_to hx, z32_to hy]
theorem z64_eq {x y : Int} (hx : zin64 x) (hy : zin64 y) : Int64.ofInt x = Int64.ofInt y ↔ x = y := by
  rw [← Int64.toInt_inj, z64_to hx, z64_to hy]
theorem z64_lt {x y : Int} (hx : zin64 x) (hy : zin64 y) : Int64.ofInt x < Int64.ofInt y ↔ x < y := by
  rw [Int64.lt_iff_toInt_lt, z64_to hx, z64_to hy]
theorem zin32_0 : zin32 0 := ⟨by decide, by decide⟩
theorem z32_zero : Int32.ofInt 0 = 0 := rfl
theorem z32_if0 {x : Int} (hx : zin32 x) : Int32.ofInt x = 0 ↔ x = 0 := z32_eq hx zin32_0
theorem z32_lt0 {x : Int} (hx : zin32 x) : Int32.ofInt x < 0 ↔ x < 0 := z32_lt hx zin32_0
theorem z32_le0 {x : Int} (hx : zin32 x) : Int32.ofInt x ≤ 0 ↔ x ≤ 0 := z32_le hx zin32_0
theorem zw_in (x : Int) : zin32 (zw x) := by
  unfold zw zin32
  have h1 := Int.le_bmod (x := x) (m := 4294967296) (by decide)
  have h2 := Int.bmod_lt (x := x) (m := 4294967296) (by decide)
  omega
theorem zw_id {x : Int} (h : zin32 x) : zw x = x := by
  obtain ⟨h1, h2⟩ := h
  exact Int.bmod_eq_of_le (by omega) (by omega)
theorem z32_zw (x : Int) : Int32.ofInt (zw x) = Int32.ofInt x := by
  rw [← Int32.toInt_inj, z32_to (zw_in x), Int32.toInt_ofInt]
  rfl
theorem z32_add (x y : Int) : Int32.ofInt (zadd x y) = Int32.ofInt x + Int32.ofInt y := by
  unfold zadd; rw [z32_zw, Int32.ofInt_add]
theorem z32_sub (x y : Int) : Int32.ofInt (zsub x y) = Int32.ofInt x - Int32.ofInt y := by
  unfold zsub; rw [z32_zw, Int32.ofInt_sub]
theorem z32_mul (x y : Int) : Int32.ofInt (zmul x y) = Int32.ofInt x * Int32.ofInt y := by
  unfold zmul; rw [z32_zw, Int32.ofInt_mul]
theorem z32_clamp {x : Int} (hx : zin32 x) : (Int32.ofInt x).toNatClampNeg = x.toNat := by
  show (Int32.ofInt x).toInt.toNat = _
  rw [z32_to hx]
theorem z32_vin {x : Int} {n : Nat} (hx : zin32 x) (h0 : 0 ≤ x) (h1 : x < n) : vp_in (Int32.ofInt x) n := by
  unfold vp_in
  rw [z32_clamp hx, z32_lt0 hx]
  omega
theorem zc_of {a b : Nat} {X : zR} {r : Int × zC} (h : cond (Nat.beq a b) X none = some r) : a = b ∧ X = some r := by
  cases e : Nat.beq a b with
  | true => rw [e] at h; exact ⟨Nat.eq_of_beq_eq_true e, h⟩
  | false => rw [e] at h; cases h
theorem zc_no {a b : Nat} {X : zR} {r : Int × zC} (h : cond (Nat.beq a b) none X = some r) : a ≠ b ∧ X = some r := by
  cases e : Nat.beq a b with
  | true => rw [e] at h; cases h
  | false => rw [e] at h; exact ⟨Nat.ne_of_beq_eq_false e, h⟩
theorem zc_le {a b : Nat} {X : zR} {r : Int × zC} (h : cond (Nat.ble a b) X none = some r) : a ≤ b ∧ X = some r := by
  cases e : Nat.ble a b with
  | true => rw [e] at h; exact ⟨Nat.le_of_ble_eq_true e, h⟩
  | false => rw [e] at h; cases h
theorem zi_of {P : Prop} [Decidable P] {X : zR} {r : Int × zC} (h : (if P then X else none) = some r) : P ∧ X = some r := by
  by_cases hp : P
  · rw [if_pos hp] at h; exact ⟨hp, h⟩
  · rw [if_neg hp] at h; cases h
theorem zi_no {P : Prop} [Decidable P] {X : zR} {r : Int × zC} (h : (if P then none else X) = some r) : ¬ P ∧ X = some r := by
  by_cases hp : P
  · rw [if_pos hp] at h; cases h
  · rw [if_neg hp] at h; exact ⟨hp, h⟩
theorem zb_of {r : zR} {f : Int → zC → zR} {q : Int × zC} (h : zbnd r f = some q) : ∃ v c, r = some (v, c) ∧ f v c = some q := by
  cases r with
  | none => cases h
  | some x => exact ⟨x.1, x.2, rfl, h⟩
-- values
def zro (b b0 : Nat) (x : Int) : Nat := if x = 1 then b else b0 + (x - 2).toNat
def zrf (b b0 : Nat) (x : Int) : Option Nat := if x = 0 then none else some (zro b b0 x)
def zV (b b0 : Nat) (v : zTV) : Value := match v.1 with
  | 0 => .int (Int32.ofInt v.2)
  | 1 => .long (Int64.ofInt v.2)
  | _ => va_rf (zrf b b0 v.2)
theorem zro_2 {b b0 : Nat} {x : Int} (h : 2 ≤ x) : zro b b0 x = b0 + (x - 2).toNat := by
  unfold zro; rw [if_neg (by omega)]
theorem zV_cat {b b0 : Nat} (v : zTV) (h : v.1 ≠ 1) : (zV b b0 v).category = 1 := by
  obtain ⟨t, x⟩ := v
  match t, h with
  | 0, _ => rfl
  | n + 2, _ =>
    show (va_rf (zrf b b0 x)).category = 1
    cases zrf b b0 x <;> rfl
theorem zcat_eq {b b0 : Nat} (st : List zTV) : ((st.map (zV b b0)).map fun v => v.category).sum = zcat st := by
  induction st with
  | nil => rfl
  | cons x r ih =>
    show (zV b b0 x).category + ((r.map (zV b b0)).map fun v => v.category).sum = cond (Nat.beq x.1 1) 2 1 + zcat r
    rw [ih]
    obtain ⟨t, y⟩ := x
    by_cases h : t = 1
    · subst h; rfl
    · rw [zV_cat (t, y) h]
      have e : Nat.beq t 1 = false := by
        cases e : Nat.beq t 1 with
        | true => exact absurd (Nat.eq_of_beq_eq_true e) h
        | false => rfl
      show _ = cond (Nat.beq t 1) 2 1 + _
      rw [e]; rfl
def zokv (v : zTV) : Prop := (v.1 = 0 → zin32 v.2) ∧ (v.1 = 1 → zin64 v.2)
def zokl (l : List zTV) : Prop := ∀ v ∈ l, zokv v
theorem zokl_c {v : zTV} {l : List zTV} (h : zokv v) (hl : zokl l) : zokl (v :: l) := fun q hq => by
  rcases List.mem_cons.mp hq with rfl | hq
  · exact h
  · exact hl q hq
theorem zokl_h {v : zTV} {l : List zTV} (h : zokl (v :: l)) : zokv v := h v List.mem_cons_self
theorem zokl_t {v : zTV} {l : List zTV} (h : zokl (v :: l)) : zokl l := fun q hq => h q (List.mem_cons_of_mem _ hq)
theorem zok0 {x : Int} (h : zin32 x) : zokv (0, x) := ⟨fun _ => h, (fun h => nomatch h)⟩
theorem zok1 {x : Int} (h : zin64 x) : zokv (1, x) := ⟨(fun h => nomatch h), fun _ => h⟩
theorem zok2 {x : Int} : zokv (2, x) := ⟨(fun h => nomatch h), (fun h => nomatch h)⟩
theorem zok3 {x : Int} : zokv (3, x) := ⟨(fun h => nomatch h), (fun h => nomatch h)⟩
-- locals
theorem znth_ok {ls : List zTV} (h : zokl ls) (i : Nat) : zokv (znth ls i) := by
  induction ls generalizing i with
  | nil => exact zok3
  | cons x r ih =>
    cases i with
    | zero => exact zokl_h h
    | succ n => exact ih (zokl_t h) n
theorem zset_len (ls : List zTV) (i : Nat) (v : zTV) : (zset ls i v).length = ls.length := by
  induction ls generalizing i with
  | nil => rfl
  | cons x r ih =>
    match i with
    | 0 => rfl
    | 1 => show (zset r 0 v).length + 1 = _; rw [ih]; rfl
    | n + 2 => show (zset r (n + 1) v).length + 1 = _; rw [ih]; rfl
theorem zset_ok {ls : List zTV} {v : zTV} (h : zokl ls) (hv : zokv v) (i : Nat) : zokl (zset ls i v) := by
  induction ls generalizing i with
  | nil => exact h
  | cons x r ih =>
    match i with
    | 0 => exact zokl_c hv (zokl_t h)
    | 1 =>
      refine zokl_c ?_ (ih (zokl_t h) 0)
      cases Nat.beq x.1 1
      · exact zokl_h h
      · exact zok3
    | n + 2 => exact zokl_c (zokl_h h) (ih (zokl_t h) (n + 1))
theorem zset_nth (ls : List zTV) (i : Nat) (v : zTV) (j : Nat) : znth (zset ls i v) j = (if j = i then (if j < ls.length then v else (3, 0)) else if j + 1 = i ∧ (znth ls j).1 = 1 then (3, 0) else znth ls j) := by
  induction ls generalizing i j with
  | nil =>
    show ((3, 0) : zTV) = if j = i then (if j < 0 then v else (3, 0)) else if j + 1 = i ∧ (3 : Nat) = 1 then (3, 0) else (3, 0)
    split <;> simp
  | cons x r ih =>
    match i, j with
    | 0, 0 => simp [zset, znth]
    | 0, j + 1 => simp [zset, znth]
    | 1, 0 =>
      show cond (Nat.beq x.1 1) (3, 0) x = _
      by_cases h : x.1 = 1
      · simp [h, znth]
      · have e : Nat.beq x.1 1 = false := by
          cases e : Nat.beq x.1 1 with
          | true => exact absurd (Nat.eq_of_beq_eq_true e) h
          | false => rfl
        simp [h, znth, e]
    | 1, j + 1 =>
      show znth (zset r 0 v) j = _
      rw [ih]
      simp [znth]
    | n + 2, 0 => simp [zset, znth]
    | n + 2, j + 1 =>
      show znth (zset r (n + 1) v) j = _
      rw [ih]
      simp [znth]
def zlv (V : zTV → Value) : Nat → List zTV → List (Nat × Value)
  | _, [] => []
  | i, x :: r => cond (Nat.beq x.1 3) (zlv V (i + 1) r) ((i, V x) :: zlv V (i + 1) r)
theorem zlv_mem {V : zTV → Value} {ls : List zTV} {i : Nat} {q : Nat × Value} : q ∈ zlv V i ls ↔ ∃ j, j < ls.length ∧ (znth ls j).1 ≠ 3 ∧ q = (i + j, V (znth ls j)) := by
  induction ls generalizing i with
  | nil => exact ⟨(fun h => by cases h), (fun ⟨j, h, _⟩ => absurd h (Nat.not_lt_zero j))⟩
  | cons x r ih =>
    have hr : q ∈ zlv V (i + 1) r ↔ ∃ j, j < (x :: r).length ∧ j ≠ 0 ∧ (znth (x :: r) j).1 ≠ 3 ∧ q = (i + j, V (znth (x :: r) j)) := by
      rw [ih]
      constructor
      · rintro ⟨j, h1, h2, h3⟩
        exact ⟨j + 1, Nat.succ_lt_succ h1, by omega, h2, by rw [h3, show i + 1 + j = i + (j + 1) by omega]; rfl⟩
      · rintro ⟨j, h1, h0, h2, h3⟩
        match j, h0 with
        | j + 1, _ => exact ⟨j, Nat.lt_of_succ_lt_succ h1, h2, by rw [h3, show i + 1 + j = i + (j + 1) by omega]; rfl⟩
    by_cases h : x.1 = 3
    · have e : zlv V i (x :: r) = zlv V (i + 1) r := by
        show cond (Nat.beq x.1 3) _ _ = _
        rw [h]; rfl
      rw [e, hr]
      constructor
      · rintro ⟨j, h1, -, h2, h3⟩; exact ⟨j, h1, h2, h3⟩
      · rintro ⟨j, h1, h2, h3⟩
        refine ⟨j, h1, ?_, h2, h3⟩
        rintro rfl
        exact h2 h
    · have e : zlv V i (x :: r) = (i, V x) :: zlv V (i + 1) r := by
        show cond (Nat.beq x.1 3) _ _ = _
        cases e : Nat.beq x.1 3 with
        | true => exact absurd (Nat.eq_of_beq_eq_true e) h
        | false => rfl
      rw [e, List.mem_cons, hr]
      constructor
      · rintro (h1 | ⟨j, h1, -, h2, h3⟩)
        · exact ⟨0, by simp, h, h1⟩
        · exact ⟨j, h1, h2, h3⟩
      · rintro ⟨j, h1, h2, h3⟩
        by_cases h0 : j = 0
        · subst h0; exact Or.inl h3
        · exact Or.inr ⟨j, h1, h0, h2, h3⟩
theorem znth_lt {ls : List zTV} {i : Nat} (h : (znth ls i).1 ≠ 3) : i < ls.length := by
  induction ls generalizing i with
  | nil => exact absurd rfl h
  | cons x r ih =>
    cases i with
    | zero => simp
    | succ n => exact Nat.succ_lt_succ (ih h)
theorem zl_at {V : zTV → Value} {lsR : Array Slot} {nL : Nat} {ls : List zTV} (h : lv_has lsR nL (zlv V 0 ls)) {i : Nat} (hi : (znth ls i).1 ≠ 3) : lsR[i]? = some (.val (V (znth ls i))) :=
  h.2.2 (i, V (znth ls i)) (zlv_mem.mpr ⟨i, znth_lt hi, hi, by simp⟩)
theorem zl_in {V : zTV → Value} {ls : List zTV} {i : Nat} (hi : (znth ls i).1 ≠ 3) : ∃ k : Nat, (zlv V 0 ls)[k]? = some (i, V (znth ls i)) :=
  List.getElem?_of_mem (zlv_mem.mpr ⟨i, znth_lt hi, hi, by simp⟩)
theorem zl_sub {lsR : Array Slot} {nL : Nat} {l l' : List (Nat × Value)} (h : lv_has lsR nL l) (hs : ∀ q ∈ l', q ∈ l) : lv_has lsR nL l' := ⟨h.1, h.2.1, fun q hq => h.2.2 q (hs q hq)⟩
theorem zl_set1 {b b0 : Nat} {ls : List zTV} {i : Nat} {v : zTV} {w : Value} (hw : zV b b0 v = w) (hi : i < ls.length) : ∀ q ∈ zlv (zV b b0) 0 (zset ls i v), q ∈ (i, w) :: (zlv (zV b b0) 0 ls).filter (fun q => !(q.1 == i) && !(q.1 + 1 == i && q.2.category == 2)) := by
  intro q hq
  obtain ⟨j, h1, h2, h3⟩ := zlv_mem.mp hq
  rw [zset_len] at h1
  rw [zset_nth] at h2 h3
  by_cases e : j = i
  · subst e
    rw [if_pos rfl, if_pos h1, hw] at h3
    rw [h3]
    simp
  · rw [if_neg e] at h2 h3
    by_cases e2 : j + 1 = i ∧ (znth ls j).1 = 1
    · rw [if_pos e2] at h2; exact absurd rfl h2
    · rw [if_neg e2] at h2 h3
      refine List.mem_cons_of_mem _ (List.mem_filter.mpr ⟨zlv_mem.mpr ⟨j, h1, h2, h3⟩, ?_⟩)
      rw [h3]
      simp only [Nat.zero_add, Bool.and_eq_true, Bool.not_eq_true', beq_eq_false_iff_ne, Bool.and_eq_false_iff]
      refine ⟨e, ?_⟩
      by_cases e3 : j + 1 = i
      · refine Or.inr ?_
        rw [zV_cat _ (fun h => e2 ⟨e3, h⟩)]
        decide
      · exact Or.inl e3
theorem zl_set2 {b b0 : Nat} {ls : List zTV} {i : Nat} {x : Int} (hi : i + 1 < ls.length) : ∀ q ∈ zlv (zV b b0) 0 (zset (zset ls (i + 1) (3, 0)) i (1, x)), q ∈ (i, Value.long (Int64.ofInt x)) :: (zlv (zV b b0) 0 ls).filter (fun q => !(q.1 == i) && (!(q.1 == i + 1) && !(q.1 + 1 == i && q.2.category == 2))) := by
  intro q hq
  obtain ⟨j, h1, h2, h3⟩ := zlv_mem.mp hq
  rw [zset_len, zset_len] at h1
  rw [zset_nth, zset_len] at h2 h3
  by_cases e : j = i
  · subst e
    rw [if_pos rfl, if_pos h1] at h3
    rw [h3]
    simp [zV]
  · rw [if_neg e] at h2 h3
    rw [zset_nth] at h2 h3
    by_cases e1 : j = i + 1
    · subst e1
      rw [if_pos rfl, if_pos h1] at h2
      simp at h2
    · rw [if_neg e1] at h2 h3
      rw [if_neg (by omega : ¬ (j + 1 = i + 1 ∧ (znth ls j).1 = 1))] at h2 h3
      by_cases e2 : j + 1 = i ∧ (znth ls j).1 = 1
      · rw [if_pos e2] at h2; exact absurd rfl h2
      · rw [if_neg e2] at h2 h3
        refine List.mem_cons_of_mem _ (List.mem_filter.mpr ⟨zlv_mem.mpr ⟨j, h1, h2, h3⟩, ?_⟩)
        rw [h3]
        simp only [Nat.zero_add, Bool.and_eq_true, Bool.not_eq_true', beq_eq_false_iff_ne, Bool.and_eq_false_iff]
        refine ⟨e, e1, ?_⟩
        by_cases e3 : j + 1 = i
        · refine Or.inr ?_
          rw [zV_cat _ (fun h => e2 ⟨e3, h⟩)]
          decide
        · exact Or.inl e3
-- a method's first locals
theorem zent_mem {V : zTV → Value} {ts : List Nat} {xs : List Int} (hc1 : ∀ x, (V (1, x)).category = 2) (hc : ∀ t x, t ≠ 1 → (V (t, x)).category = 1) (n i : Nat) : ∀ q ∈ zlv V i (zpad n (zent ts xs)), q ∈ lv_args i ((List.zip ts xs).map V) := by
  induction ts generalizing xs n i with
  | nil =>
    intro q hq
    have : ∀ n i, zlv V i (zpad n []) = [] := by
      intro n
      induction n with
      | zero => intro i; rfl
      | succ n ih => intro i; exact ih (i + 1)
    rw [show zent [] xs = [] by cases xs <;> rfl, this] at hq
    cases hq
  | cons t ts ih =>
    cases xs with
    | nil =>
      intro q hq
      have : ∀ n i, zlv V i (zpad n []) = [] := by
        intro n
        induction n with
        | zero => intro i; rfl
        | succ n ih => intro i; exact ih (i + 1)
      rw [show zent (t :: ts) [] = [] by rfl, this] at hq
      cases hq
    | cons x xs =>
      intro q hq
      show q ∈ (i, V (t, x)) :: lv_args (if (V (t, x)).category = 2 then i + 2 else i + 1) ((List.zip ts xs).map V)
      by_cases h : t = 1
      · subst h
        rw [show zent (1 :: ts) (x :: xs) = (1, x) :: (3, 0) :: zent ts xs from rfl] at hq
        rw [hc1, if_pos rfl]
        match n with
        | 0 => cases hq
        | 1 =>
          rcases List.mem_cons.mp hq with rfl | hq
          · exact List.mem_cons_self
          · cases hq
        | n + 2 =>
          rcases List.mem_cons.mp hq with rfl | hq
          · exact List.mem_cons_self
          · exact List.mem_cons_of_mem _ (ih n (i + 2) q hq)
      · have e : Nat.beq t 1 = false := by
          cases e : Nat.beq t 1 with
          | true => exact absurd (Nat.eq_of_beq_eq_true e) h
          | false => rfl
        rw [show zent (t :: ts) (x :: xs) = (t, x) :: zent ts xs by show cond (Nat.beq t 1) _ _ = _; rw [e]; rfl] at hq
        rw [hc t x h, if_neg (by decide)]
        match n with
        | 0 => cases hq
        | n + 1 =>
          have hq : q ∈ cond (Nat.beq t 3) (zlv V (i + 1) (zpad n (zent ts xs))) ((i, V (t, x)) :: zlv V (i + 1) (zpad n (zent ts xs))) := hq
          cases e3 : Nat.beq t 3 with
          | true => rw [e3] at hq; exact List.mem_cons_of_mem _ (ih n (i + 1) q hq)
          | false =>
            rw [e3] at hq
            rcases List.mem_cons.mp hq with rfl | hq
            · exact List.mem_cons_self
            · exact List.mem_cons_of_mem _ (ih n (i + 1) q hq)
theorem zpad_len (n : Nat) (l : List zTV) : (zpad n l).length = n := by
  induction n generalizing l with
  | zero => rfl
  | succ n ih => cases l <;> (show _ + 1 = _; rw [ih])
theorem zpad_ok {n : Nat} {l : List zTV} (h : zokl l) : zokl (zpad n l) := by
  induction n generalizing l with
  | zero => exact fun q hq => by cases hq
  | succ n ih =>
    cases l with
    | nil => exact zokl_c zok3 (ih h)
    | cons x l => exact zokl_c (zokl_h h) (ih (zokl_t h))
theorem zent_ok {ts : List Nat} {xs : List Int} (h : zokl (List.zip ts xs)) : zokl (zent ts xs) := by
  induction ts generalizing xs with
  | nil => cases xs <;> exact fun q hq => by cases hq
  | cons t ts ih =>
    cases xs with
    | nil => exact fun q hq => by cases hq
    | cons x xs =>
      show zokl (cond (Nat.beq t 1) ((1, x) :: (3, 0) :: zent ts xs) ((t, x) :: zent ts xs))
      have h1 : zokv (t, x) := zokl_h h
      have h2 := ih (zokl_t h)
      cases e : Nat.beq t 1 with
      | true =>
        have := Nat.eq_of_beq_eq_true e
        subst this
        exact zokl_c h1 (zokl_c zok3 h2)
      | false => exact zokl_c h1 h2
theorem zpop_of {ts : List Nat} {st : List zTV} {acc : List Int} {k : List Int → List zTV → zR} {r : Int × zC} (h : zpop ts st acc k = some r) :
    ∃ (as : List Int) (rest : List zTV), as.length = ts.length ∧ st = List.zip ts as ++ rest ∧ zcat rest ≤ 8 ∧ k (as.reverse ++ acc) rest = some r := by
  induction ts generalizing st acc with
  | nil =>
    have h : cond (Nat.ble (zcat st) 8) (k acc st) none = some r := by cases st <;> exact h
    obtain ⟨h1, h2⟩ := zc_le h
    exact ⟨[], st, rfl, rfl, h1, h2⟩
  | cons t ts ih =>
    cases st with
    | nil => cases h
    | cons x st =>
      obtain ⟨h1, h2⟩ := zc_of (show cond (Nat.beq t x.1) (zpop ts st (x.2 :: acc) k) none = some r from h)
      obtain ⟨as, rest, e1, e2, e3, e4⟩ := ih h2
      refine ⟨x.2 :: as, rest, by simp [e1], ?_, e3, ?_⟩
      · rw [e2, h1]; rfl
      · rw [List.reverse_cons, List.append_assoc]; exact e4
theorem zmask_len (m : List Bool) (l : List zTV) : (zmask m l).length = l.length := by
  induction m generalizing l with
  | nil => rfl
  | cons b m ih => cases l with
    | nil => rfl
    | cons x l => show (zmask m l).length + 1 = _; rw [ih]; rfl
theorem zmask_ok {m : List Bool} {l : List zTV} (h : zokl l) : zokl (zmask m l) := by
  induction m generalizing l with
  | nil => exact h
  | cons b m ih => cases l with
    | nil => exact h
    | cons x l =>
      refine zokl_c ?_ (ih (zokl_t h))
      cases b
      · exact zok3
      · exact zokl_h h
theorem zmask_nth (m : List Bool) (l : List zTV) (j : Nat) : znth (zmask m l) j = znth l j ∨ znth (zmask m l) j = (3, 0) := by
  induction m generalizing l j with
  | nil => exact Or.inl rfl
  | cons b m ih => cases l with
    | nil => exact Or.inl rfl
    | cons x l => cases j with
      | zero => cases b
                · exact Or.inr rfl
                · exact Or.inl rfl
      | succ j => exact ih l j
theorem zmask_lv {V : zTV → Value} {m : List Bool} {l : List zTV} : ∀ q ∈ zlv V 0 (zmask m l), q ∈ zlv V 0 l := by
  intro q hq
  obtain ⟨j, h1, h2, h3⟩ := zlv_mem.mp hq
  rw [zmask_len] at h1
  rcases zmask_nth m l j with e | e
  · rw [e] at h2 h3; exact zlv_mem.mpr ⟨j, h1, h2, h3⟩
  · rw [e] at h2; exact absurd rfl h2
