/-! The constructors: new cells, rows that hang on an object. -/
section
variable {c : zC} {kd n a b k : Int}
theorem znw_k (h : c 0 0 = a) : znew c kd n a (-1) = kd := by
  unfold znew; rw [if_pos h.symm, if_pos rfl]
theorem znw_n (h : c 0 0 = a) : znew c kd n a (-2) = n := by
  unfold znew; rw [if_pos h.symm, if_neg (by decide), if_pos rfl]
theorem znw_v (h : c 0 0 = a) (h1 : 0 ≤ k) : znew c kd n a k = 0 := by
  unfold znew; rw [if_pos h.symm, if_neg (by omega), if_neg (by omega)]
theorem znw_o (h : b ≠ c 0 0) (h0 : b ≠ 0) : znew c kd n b k = c b k := by
  unfold znew; rw [if_neg h, if_neg (fun x => h0 x.1), if_neg (fun x => h0 x.1)]
theorem znw_0 (h : 0 < c 0 0) : znew c kd n 0 0 = c 0 0 + 1 := by
  unfold znew; rw [if_neg (by omega), if_pos ⟨rfl, rfl⟩]
theorem znw_1 (h : 0 < c 0 0) : znew c kd n 0 1 = c 0 1 + n := by
  unfold znew; rw [if_neg (by omega), if_neg (by decide), if_pos ⟨rfl, rfl⟩]
end
/-- n cells more, m slots more; of the old ones only t has changed -/
def zng (c c' : zC) (t n m : Int) : Prop := c' 0 0 = c 0 0 + n ∧ c' 0 1 = c 0 1 + m ∧ ∀ b k, b ≠ 0 → b ≠ t → b < c 0 0 → c' b k = c b k
section
variable {c c1 c2 : zC} {t t2 n m n2 m2 kd s a k v : Int}
theorem zng.rf (c : zC) (t : Int) : zng c c t 0 0 := ⟨(Int.add_zero _).symm, (Int.add_zero _).symm, fun _ _ _ _ _ => rfl⟩
theorem zng.new (h : zng c c1 t n m) (h0 : 0 < c 0 0) (hn : 0 ≤ n) : zng c (znew c1 kd s) t (n + 1) (m + s) := by
  obtain ⟨h1, h2, h3⟩ := h
  refine ⟨by rw [znw_0 (by omega)]; omega, by rw [znw_1 (by omega)]; omega, fun b k b0 bt bl => ?_⟩
  rw [znw_o (by omega) b0]; exact h3 b k b0 bt bl
theorem zng.up (h : zng c c1 t n m) (h0 : a ≠ 0) (ha : a = t ∨ c 0 0 ≤ a) : zng c (zup c1 a k v) t n m := by
  obtain ⟨h1, h2, h3⟩ := h
  refine ⟨by rw [zup_ne (Or.inl (Ne.symm h0))]; exact h1, by rw [zup_ne (Or.inl (Ne.symm h0))]; exact h2, fun b k b0 bt bl => ?_⟩
  rw [zup_ne (by omega)]; exact h3 b k b0 bt bl
theorem zng.tr (h : zng c c1 t n m) (g : zng c1 c2 t2 n2 m2) (ht : t2 = t ∨ c 0 0 ≤ t2) (hn : 0 ≤ n) : zng c c2 t (n + n2) (m + m2) := by
  obtain ⟨h1, h2, h3⟩ := h
  obtain ⟨g1, g2, g3⟩ := g
  refine ⟨by omega, by omega, fun b k b0 bt bl => ?_⟩
  rw [g3 b k b0 (by omega) (by omega)]; exact h3 b k b0 bt bl
theorem zng.num (h : zng c c1 t n m) (e1 : n = n2) (e2 : m = m2) : zng c c1 t n2 m2 := by
  subst e1 e2; exact h
end
/-- a new row of n at a, to which the field f of t leads -/
def NR (c c1 : zC) (t f a kd n : Int) : Prop := LArr c1 a kd n ∧ (∀ k, 0 ≤ k → c1 a k = 0) ∧ c1 t f = a ∧ (∀ k, k ≠ f → c1 t k = c t k) ∧ (∀ b k, b ≠ 0 → b ≠ t → b ≠ a → c1 b k = c b k) ∧ c1 0 0 = a + 1 ∧ c1 0 1 = c 0 1 + n
section
variable {c c1 : zC} {t f a kd n k kd2 n2 : Int}
theorem NR_ok (h0 : c 0 0 = a) (h1 : 0 < t) (h2 : t < a) : NR c (zup (znew c kd n) t f a) t f a kd n := by
  refine ⟨⟨by rw [zup_ne (by omega)]; exact znw_k h0, by rw [zup_ne (by omega)]; exact znw_n h0⟩, fun k hk => by rw [zup_ne (by omega)]; exact znw_v h0 hk, zup_eq ⟨rfl, rfl⟩, fun k hk => by rw [zup_ne (Or.inr hk), znw_o (by omega) (by omega)], fun b k b0 bt ba => by rw [zup_ne (Or.inl bt), znw_o (by omega) b0], by rw [zup_ne (by omega), znw_0 (by omega), h0], by rw [zup_ne (by omega), znw_1 (by omega)]⟩
theorem NR.z (h : NR c c1 t f a kd n) : c1 0 0 = a + 1 := h.2.2.2.2.2.1
theorem NR.tt (h : NR c c1 t f a kd n) (hk : k ≠ f) : c1 t k = c t k := h.2.2.2.1 k hk
theorem NR.kk (h : NR c c1 t f a kd n) (h0 : 0 < t) (h1 : t < a) (hf : (-1 : Int) ≠ f) : znew c1 kd2 n2 t (-1) = c t (-1) := by
  rw [znw_o (by rw [h.z]; omega) (by omega), h.tt hf]
end
/-- a row of such rows -/
def NRs : zC → zC → Int → List (Int × Int × Int) → Int → Prop
  | c, c', _, [], _ => c' = c
  | c, c', t, q :: l, a => ∃ c1, NR c c1 t q.1 a q.2.1 q.2.2 ∧ NRs c1 c' t l (a + 1)
def NRn : List (Int × Int × Int) → Int
  | [] => 0
  | _ :: l => NRn l + 1
def NRm : List (Int × Int × Int) → Int
  | [] => 0
  | q :: l => NRm l + q.2.2
theorem NRn_0 : ∀ l, 0 ≤ NRn l
  | [] => Int.le_refl 0
  | _ :: l => by have := NRn_0 l; show 0 ≤ NRn l + 1; omega
/-- what such rows are in the end -/
def NRa (c : zC) (t : Int) : List (Int × Int × Int) → Int → Prop
  | [], _ => True
  | q :: l, a => (LArr c a q.2.1 q.2.2 ∧ (∀ k, 0 ≤ k → c a k = 0) ∧ c t q.1 = a) ∧ NRa c t l (a + 1)
theorem NRs.nil (c : zC) (t a : Int) : NRs c c t [] a := rfl
theorem NRs.cons {c c1 c' : zC} {t f a kd n : Int} {l : List (Int × Int × Int)} (h : NR c c1 t f a kd n) (g : NRs c1 c' t l (a + 1)) : NRs c c' t ((f, kd, n) :: l) a := ⟨c1, h, g⟩
def NRd : List (Int × Int × Int) → Prop
  | [] => True
  | q :: l => (∀ r ∈ l, q.1 ≠ r.1) ∧ NRd l
theorem NRs.ok {t : Int} (h0 : 0 < t) : ∀ (l : List (Int × Int × Int)) (c c' : zC) (a : Int), t < a → c 0 0 = a → NRs c c' t l a → NRd l → zng c c' t (NRn l) (NRm l) ∧ (∀ k, (∀ q ∈ l, k ≠ q.1) → c' t k = c t k) ∧ NRa c' t l a := by
  intro l
  induction l with
  | nil =>
    intro c c' a ha hc h _
    have h : c' = c := h
    subst h
    exact ⟨zng.rf _ _, fun _ _ => rfl, trivial⟩
  | cons q l ih =>
    intro c c' a ha hc h hd
    obtain ⟨c1, R, g⟩ := h
    obtain ⟨i1, i2, i3⟩ := ih c1 c' (a + 1) (by omega) R.z g hd.2
    obtain ⟨⟨r1, r2⟩, r3, r4, r5, r6, r7, r8⟩ := R
    have hn := NRn_0 l
    have e : ∀ k, c' a k = c1 a k := fun k => i1.2.2 a k (by omega) (by omega) (by omega)
    refine ⟨⟨?_, ?_, fun b k b0 bt bl => ?_⟩, fun k hk => ?_, ⟨⟨by rw [e]; exact r1, by rw [e]; exact r2⟩, fun k hk => by rw [e]; exact r3 k hk, ?_⟩, i3⟩
    · show c' 0 0 = c 0 0 + (NRn l + 1)
      rw [i1.1]; omega
    · show c' 0 1 = c 0 1 + (NRm l + q.2.2)
      rw [i1.2.1]; omega
    · rw [i1.2.2 b k b0 bt (by omega)]
      exact r6 b k b0 bt (by omega)
    · rw [i2 k (fun r hr => hk r (List.mem_cons_of_mem _ hr))]
      exact r5 k (hk q List.mem_cons_self)
    · rw [i2 q.1 (fun r hr => hd.1 r hr)]
      exact r4
