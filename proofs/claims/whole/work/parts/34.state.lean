/-! The class's states. -/
def LRule (c : zC) (Q : Int) : Prop := c Q (-1) = 7
def zcpS (c : zC) (Q G : Int) : zC := fun b k => if b = Q + 1 ∧ 0 ≤ k ∧ k < 4 then c (G + 1) k else if b = Q ∧ (k = 0 ∨ k = 2 ∨ k = 3) then c G k else c b k
def zcpR (c : zC) (Q G : Int) : zC := fun b k => if b = Q ∧ 0 ≤ k ∧ k ≤ 3 then c G k else c b k
theorem zs_S_copyFrom (d : Nat) {Q G : Int} (c : zC) (h : LSense c Q) (g : LSense c G) (hG : G ≠ 0) (h1 : G + 1 < Q ∨ Q + 1 < G) : zrun zTab (d + 1) 65 [Q, G] c = some (0, zcpS c Q G) := by
  obtain ⟨h1, h2, ⟨h3, h4⟩, h5, h6⟩ := h
  obtain ⟨g1, g2, ⟨g3, g4⟩, g5, g6⟩ := g
  have e : zup (zup (zcopy (zup c Q 0 (c G 0)) (G + 1) 0 (Q + 1) 0 4) Q 2 (c G 2)) Q 3 (c G 3) = zcpS c Q G := by
    funext b k; grind [zup, zcopy, zcpS]
  rw [← e, ze_X7_copyFrom]
  grind [zup, zcopy]
theorem zs_S_copyFrom0 (d : Nat) {Q : Int} (c : zC) : zrun zTab (d + 1) 65 [Q, 0] c = some (0, c) := by
  rw [ze_X7_copyFrom, if_pos rfl]
theorem zs_R_copyFrom (d : Nat) {Q G : Int} (c : zC) (h : LRule c Q) (g : LRule c G) (hG : G ≠ 0) (h1 : G ≠ Q) : zrun zTab (d + 1) 61 [Q, G] c = some (0, zcpR c Q G) := by
  have h : c Q (-1) = 7 := h
  have g : c G (-1) = 7 := g
  have e : zup (zup (zup (zup c Q 0 (c G 0)) Q 1 (c G 1)) Q 2 (c G 2)) Q 3 (c G 3) = zcpR c Q G := by
    funext b k; grind (splits := 30) [zup, zcpR]
  rw [← e, ze_X6_copyFrom]
  grind [zup]
theorem zs_R_copyFrom0 (d : Nat) {Q : Int} (c : zC) : zrun zTab (d + 1) 61 [Q, 0] c = some (0, c) := by
  rw [ze_X6_copyFrom, if_pos rfl]
theorem zs_S_hintAt (d : Nat) {Q i : Int} (c : zC) (h : LSense c Q) : zrun zTab (d + 1) 63 [Q, i] c = some (if 0 ≤ i ∧ i < c Q 2 then c (Q + 1) i else 0, c) := by
  obtain ⟨h1, h2, ⟨h3, h4⟩, h5, h6⟩ := h
  rw [ze_X7_hintAt]
  grind
theorem zs_R_become (d : Nat) {Q e r : Int} (c : zC) (h : LRule c Q) (he : 0 ≤ e ∧ e < 9223372036854775808) (hr : 0 ≤ r ∧ r < 9223372036854775808) : zrun zTab (d + 2) 59 [Q, e, r] c = some (0, zup (zup (zup (zup c Q 0 e) Q 1 r) Q 2 (5 * mlen e)) Q 3 (5 * mlen r)) := by
  have h : c Q (-1) = 7 := h
  have l1 := mlenF_le 10 e
  have l2 := mlenF_le 10 r
  have m1 : mlen e = mlenF 10 e := rfl
  have m2 : mlen r = mlenF 10 r := rfl
  rw [ze_X6_become]
  simp only [zs_lengthOf d _ he.1 he.2, zs_lengthOf d _ hr.1 hr.2, zbnd_some]
  grind [zup, zmul_id]
/-- the cells of a state: 38 from S on -/
def LState (c : zC) (S : Int) : Prop := 0 < S ∧ c S (-1) = 9 ∧ c S 0 = S + 1 ∧ c S 1 = S + 2 ∧ c S 2 = S + 3 ∧ LArr c (S + 1) 114 4 ∧ LArr c (S + 2) 117 8 ∧ LArr c (S + 3) 116 6 ∧
  (∀ p, 0 ≤ p → p < 4 → c (S + 1) p = S + 4 + 3 * p ∧ LPage c (S + 4 + 3 * p)) ∧
  (∀ j, 0 ≤ j → j < 8 → (S + 16 ≤ c (S + 2) j ∧ c (S + 2) j ≤ S + 30 ∧ (c (S + 2) j - S) % 2 = 0) ∧ LSense c (c (S + 2) j)) ∧ (∀ i j, 0 ≤ i → i < j → j < 8 → c (S + 2) i ≠ c (S + 2) j) ∧
  (∀ j, 0 ≤ j → j < 6 → (S + 32 ≤ c (S + 3) j ∧ c (S + 3) j ≤ S + 37) ∧ c (c (S + 3) j) (-1) = 7) ∧ (∀ i j, 0 ≤ i → i < j → j < 6 → c (S + 3) i ≠ c (S + 3) j) ∧
  0 ≤ c S 3 ∧ c S 3 ≤ 8 ∧ 0 ≤ c S 4 ∧ c S 4 ≤ 6
theorem zs_T_pageAt (d : Nat) {S p : Int} (c : zC) (h : LState c S) : zrun zTab (d + 1) 67 [S, p] c = some (if 0 ≤ p ∧ p < 4 then S + 4 + 3 * p else 0, c) := by
  obtain ⟨h0, h1, h2, h3, h4, ⟨h5, h6⟩, -, -, h7, -⟩ := h
  rw [ze_X8_pageAt]
  grind
theorem zs_T_senseAt (d : Nat) {S j : Int} (c : zC) (h : LState c S) : zrun zTab (d + 1) 68 [S, j] c = some (if 0 ≤ j ∧ j < c S 3 then c (S + 2) j else 0, c) := by
  obtain ⟨h0, h1, h2, h3, h4, -, ⟨h5, h6⟩, -, -, -, -, -, -, h7, h8, h9, h10⟩ := h
  rw [ze_X8_senseAt]
  grind
theorem zs_T_ruleAt (d : Nat) {S j : Int} (c : zC) (h : LState c S) : zrun zTab (d + 1) 69 [S, j] c = some (if 0 ≤ j ∧ j < c S 4 then c (S + 3) j else 0, c) := by
  obtain ⟨h0, h1, h2, h3, h4, -, -, ⟨h5, h6⟩, -, -, -, -, -, h7, h8, h9, h10⟩ := h
  rw [ze_X8_ruleAt]
  grind
/-- c1 is c but for the contents of the state S: np pages, ns senses, nr rules are those of the state F -/
def ICp (c c1 : zC) (S F np ns nr : Int) : Prop :=
  (∀ b, (b < S ∨ S + 38 ≤ b) → ∀ k, c1 b k = c b k) ∧ (∀ b k, k < 0 → c1 b k = c b k) ∧ (∀ k, c1 S k = c S k ∧ c1 (S + 1) k = c (S + 1) k ∧ c1 (S + 2) k = c (S + 2) k ∧ c1 (S + 3) k = c (S + 3) k) ∧
  (∀ p, 0 ≤ p → p < 4 → c1 (S + 4 + 3 * p) 0 = c (S + 4 + 3 * p) 0 ∧ c1 (S + 4 + 3 * p) 1 = c (S + 4 + 3 * p) 1) ∧
  (∀ j, 0 ≤ j → j < 8 → c1 (c (S + 2) j) 1 = c (c (S + 2) j) 1) ∧
  (∀ p, 0 ≤ p → p < np → c1 (S + 4 + 3 * p) 2 = c (F + 4 + 3 * p) 2 ∧ c1 (S + 4 + 3 * p) 3 = c (F + 4 + 3 * p) 3 ∧ ∀ k, 0 ≤ k → k < 20 → c1 (S + 5 + 3 * p) k = c (F + 5 + 3 * p) k ∧ c1 (S + 6 + 3 * p) k = c (F + 6 + 3 * p) k) ∧
  (∀ p, np ≤ p → p < 4 → c1 (S + 4 + 3 * p) 2 = c (S + 4 + 3 * p) 2) ∧
  (∀ j, 0 ≤ j → j < ns → j < c F 3 → c1 (c (S + 2) j) 0 = c (c (F + 2) j) 0 ∧ c1 (c (S + 2) j) 2 = c (c (F + 2) j) 2 ∧ c1 (c (S + 2) j) 3 = c (c (F + 2) j) 3 ∧ ∀ k, 0 ≤ k → k < 4 → c1 (c (S + 2) j + 1) k = c (c (F + 2) j + 1) k) ∧
  (∀ j, 0 ≤ j → j < 8 → (ns ≤ j ∨ c F 3 ≤ j) → c1 (c (S + 2) j) 2 = c (c (S + 2) j) 2) ∧
  (∀ j, 0 ≤ j → j < nr → j < c F 4 → ∀ k, 0 ≤ k → k ≤ 3 → c1 (c (S + 3) j) k = c (c (F + 3) j) k)
theorem zpg_o {c : zC} {P G v b k : Int} (h : b < P ∨ P + 2 < b) : zup (zcpW c P G) P 3 v b k = c b k := by grind [zup, zcpW]
theorem zpg_n {c : zC} {P G v b k : Int} (h : k < 0) : zup (zcpW c P G) P 3 v b k = c b k := by grind [zup, zcpW]
theorem zpg_01 {c : zC} {P G v k : Int} (h : k < 2) : zup (zcpW c P G) P 3 v P k = c P k := by grind [zup, zcpW]
theorem zpg_2 {c : zC} {P G v : Int} : zup (zcpW c P G) P 3 v P 2 = c G 2 := by grind [zup, zcpW]
theorem zpg_3 {c : zC} {P G v : Int} : zup (zcpW c P G) P 3 v P 3 = v := by grind [zup, zcpW]
theorem zpg_w {c : zC} {P G v k : Int} (h : 0 ≤ k) (h2 : k < 20) : zup (zcpW c P G) P 3 v (P + 1) k = c (G + 1) k := by grind [zup, zcpW]
theorem zpg_s {c : zC} {P G v k : Int} (h : 0 ≤ k) (h2 : k < 20) : zup (zcpW c P G) P 3 v (P + 2) k = c (G + 2) k := by grind [zup, zcpW]
theorem zcpS_o {c : zC} {Q G b k : Int} (h : b ≠ Q) (h2 : b ≠ Q + 1) : zcpS c Q G b k = c b k := by grind [zcpS]
theorem zcpS_n {c : zC} {Q G b k : Int} (h : k < 0) : zcpS c Q G b k = c b k := by grind [zcpS]
theorem zcpS_1 {c : zC} {Q G : Int} : zcpS c Q G Q 1 = c Q 1 := by grind [zcpS]
theorem zcpS_k {c : zC} {Q G k : Int} (h : k = 0 ∨ k = 2 ∨ k = 3) : zcpS c Q G Q k = c G k := by grind [zcpS]
theorem zcpS_h {c : zC} {Q G k : Int} (h : 0 ≤ k) (h2 : k < 4) : zcpS c Q G (Q + 1) k = c (G + 1) k := by grind [zcpS]
theorem zcpR_o {c : zC} {Q G b k : Int} (h : b ≠ Q) : zcpR c Q G b k = c b k := by grind [zcpR]
theorem zcpR_n {c : zC} {Q G b k : Int} (h : k < 0) : zcpR c Q G b k = c b k := by grind [zcpR]
theorem zcpR_k {c : zC} {Q G k : Int} (h : 0 ≤ k) (h2 : k ≤ 3) : zcpR c Q G Q k = c G k := by grind [zcpR]
theorem ICp_p {c c1 : zC} {S F p : Int} (hS : LState c S) (hd : S + 38 ≤ F ∨ F + 38 ≤ S) (h : ICp c c1 S F p 0 0) (hp : 0 ≤ p) (hp4 : p < 4) : ICp c (zup (zcpW c1 (S + 4 + 3 * p) (F + 4 + 3 * p)) (S + 4 + 3 * p) 3 (c1 (F + 4 + 3 * p) 3)) S F (p + 1) 0 0 := by
  obtain ⟨i1, i2, i3, i4, i5, i6, i7, i8, i9, i10⟩ := h
  have hQ := hS.2.2.2.2.2.2.2.2.2.1
  refine ⟨fun b hb k => ?_, fun b k hk => ?_, fun k => ?_, fun q q1 q2 => ?_, fun j j1 j2 => ?_, fun q q1 q2 => ?_, fun q q1 q2 => ?_, fun j j1 j2 => by omega, fun j j1 j2 j3 => ?_, fun j j1 j2 => by omega⟩
  · rw [zpg_o (by omega)]; exact i1 b hb k
  · rw [zpg_n hk]; exact i2 b k hk
  · rw [zpg_o (by omega), zpg_o (by omega), zpg_o (by omega), zpg_o (by omega)]; exact i3 k
  · by_cases e : q = p
    · subst e; rw [zpg_01 (by decide), zpg_01 (by decide)]; exact i4 q q1 q2
    · rw [zpg_o (by omega), zpg_o (by omega)]; exact i4 q q1 q2
  · have := (hQ j j1 j2).1
    rw [zpg_o (by omega)]; exact i5 j j1 j2
  · by_cases e : q = p
    · subst e
      refine ⟨?_, ?_, fun k k1 k2 => ⟨?_, ?_⟩⟩
      · rw [zpg_2]; exact i1 _ (by omega) 2
      · rw [zpg_3]; exact i1 _ (by omega) 3
      · rw [show S + 5 + 3 * q = S + 4 + 3 * q + 1 by omega, zpg_w k1 k2, show F + 5 + 3 * q = F + 4 + 3 * q + 1 by omega]; exact i1 _ (by omega) k
      · rw [show S + 6 + 3 * q = S + 4 + 3 * q + 2 by omega, zpg_s k1 k2, show F + 6 + 3 * q = F + 4 + 3 * q + 2 by omega]; exact i1 _ (by omega) k
    · obtain ⟨b1, b2, b3⟩ := i6 q q1 (by omega)
      refine ⟨?_, ?_, fun k k1 k2 => ?_⟩
      · rw [zpg_o (by omega)]; exact b1
      · rw [zpg_o (by omega)]; exact b2
      · rw [zpg_o (by omega), zpg_o (by omega)]; exact b3 k k1 k2
  · rw [zpg_o (by omega)]; exact i7 q (by omega) q2
  · have := (hQ j j1 j2).1
    rw [zpg_o (by omega)]; exact i9 j j1 j2 j3
/-- the state's other facts, out of what has been copied -/
theorem ICp_L {c c1 : zC} {S F np ns nr : Int} (hS : LState c S) (hF : LState c F) (h : ICp c c1 S F np ns nr) (hn : np ≤ 4) : LState c1 S := by
  obtain ⟨i1, i2, i3, i4, i5, i6, i7, i8, i9, i10⟩ := h
  obtain ⟨h0, h1, h2, h3, h4, h5, h6, h7, h8, h9, h10, h11, h12, h13⟩ := hS
  obtain ⟨-, -, -, -, -, -, -, -, g8, g9, -⟩ := hF
  have e := fun k => i3 k
  refine ⟨h0, by rw [i2 _ _ (by decide)]; exact h1, by rw [(e 0).1]; exact h2, by rw [(e 1).1]; exact h3, by rw [(e 2).1]; exact h4, ?_, ?_, ?_, fun p p1 p2 => ?_, fun j j1 j2 => ?_, fun i j j1 j2 j3 => ?_, fun j j1 j2 => ?_, fun i j j1 j2 j3 => ?_, by rw [(e 3).1, (e 4).1]; exact h13⟩
  · exact ⟨by rw [i2 _ _ (by decide)]; exact h5.1, by rw [i2 _ _ (by decide)]; exact h5.2⟩
  · exact ⟨by rw [i2 _ _ (by decide)]; exact h6.1, by rw [i2 _ _ (by decide)]; exact h6.2⟩
  · exact ⟨by rw [i2 _ _ (by decide)]; exact h7.1, by rw [i2 _ _ (by decide)]; exact h7.2⟩
  · obtain ⟨a1, a2, a3, a4, a5, a6, a7, a8⟩ := h8 p p1 p2
    refine ⟨by rw [(e p).2.1]; exact a1, by rw [i2 _ _ (by decide)]; exact a2, by rw [(i4 p p1 p2).1]; exact a3, by rw [(i4 p p1 p2).2]; exact a4, ⟨by rw [i2 _ _ (by decide)]; exact a5.1, by rw [i2 _ _ (by decide)]; exact a5.2⟩, ⟨by rw [i2 _ _ (by decide)]; exact a6.1, by rw [i2 _ _ (by decide)]; exact a6.2⟩, ?_⟩
    by_cases q : p < np
    · rw [(i6 p p1 q).1]
      exact (g8 p p1 p2).2.2.2.2.2.2
    · rw [i7 p (by omega) p2]
      exact ⟨a7, a8⟩
  · obtain ⟨a1, a2, a3, a4, a5⟩ := h9 j j1 j2
    rw [(e j).2.2.1]
    refine ⟨a1, by rw [i2 _ _ (by decide)]; exact a2, by rw [i5 j j1 j2]; exact a3, ⟨by rw [i2 _ _ (by decide)]; exact a4.1, by rw [i2 _ _ (by decide)]; exact a4.2⟩, ?_⟩
    by_cases q : j < ns ∧ j < c F 3
    · rw [(i8 j j1 q.1 q.2).2.1]
      exact (g9 j j1 j2).2.2.2.2
    · rw [i9 j j1 j2 (by omega)]; exact a5
  · rw [(e i).2.2.1, (e j).2.2.1]; exact h10 i j j1 j2 j3
  · rw [(e j).2.2.2, i2 _ _ (by decide)]; exact h11 j j1 j2
  · rw [(e i).2.2.2, (e j).2.2.2]; exact h12 i j j1 j2 j3
/-- the same for the state that is copied -/
theorem ICp_F {c c1 : zC} {S F np ns nr : Int} (hF : LState c F) (hd : S + 38 ≤ F ∨ F + 38 ≤ S) (h : ICp c c1 S F np ns nr) : LState c1 F ∧ ∀ b, F ≤ b → b < F + 38 → ∀ k, c1 b k = c b k := by
  have i1 := h.1
  have hb : ∀ b, F ≤ b → b < F + 38 → ∀ k, c1 b k = c b k := fun b b1 b2 k => i1 b (by omega) k
  refine ⟨?_, hb⟩
  obtain ⟨h0, h1, h2, h3, h4, h5, h6, h7, h8, h9, h10, h11, h12, h13⟩ := hF
  have e0 := hb F (by omega) (by omega)
  have e1 := hb (F + 1) (by omega) (by omega)
  have e2 := hb (F + 2) (by omega) (by omega)
  have e3 := hb (F + 3) (by omega) (by omega)
  refine ⟨h0, by rw [e0]; exact h1, by rw [e0]; exact h2, by rw [e0]; exact h3, by rw [e0]; exact h4, ⟨by rw [e1]; exact h5.1, by rw [e1]; exact h5.2⟩, ⟨by rw [e2]; exact h6.1, by rw [e2]; exact h6.2⟩, ⟨by rw [e3]; exact h7.1, by rw [e3]; exact h7.2⟩, fun p p1 p2 => ?_, fun j j1 j2 => ?_, fun i j j1 j2 j3 => ?_, fun j j1 j2 => ?_, fun i j j1 j2 j3 => ?_, by rw [e0, e0]; exact h13⟩
  · obtain ⟨a1, a2, a3, a4, a5, a6, a7⟩ := h8 p p1 p2
    have f0 := hb (F + 4 + 3 * p) (by omega) (by omega)
    have f1 := hb (F + 4 + 3 * p + 1) (by omega) (by omega)
    have f2 := hb (F + 4 + 3 * p + 2) (by omega) (by omega)
    exact ⟨by rw [e1]; exact a1, by rw [f0]; exact a2, by rw [f0]; exact a3, by rw [f0]; exact a4, ⟨by rw [f1]; exact a5.1, by rw [f1]; exact a5.2⟩, ⟨by rw [f2]; exact a6.1, by rw [f2]; exact a6.2⟩, by rw [f0]; exact a7⟩
  · obtain ⟨a1, a2, a3, a4, a5⟩ := h9 j j1 j2
    have f0 := hb (c (F + 2) j) (by omega) (by omega)
    have f1 := hb (c (F + 2) j + 1) (by omega) (by omega)
    rw [e2]
    exact ⟨a1, by rw [f0]; exact a2, by rw [f0]; exact a3, ⟨by rw [f1]; exact a4.1, by rw [f1]; exact a4.2⟩, by rw [f0]; exact a5⟩
  · rw [e2, e2]; exact h10 i j j1 j2 j3
  · have := h11 j j1 j2
    rw [e3, hb _ (by omega) (by omega)]; exact this
  · rw [e3, e3]; exact h12 i j j1 j2 j3
theorem ICp_s {c c1 : zC} {S F j : Int} (hS : LState c S) (hF : LState c F) (hd : S + 38 ≤ F ∨ F + 38 ≤ S) (h : ICp c c1 S F 4 j 0) (hj : 0 ≤ j) (hj8 : j < 8) : ICp c (if j < c F 3 then zcpS c1 (c (S + 2) j) (c (F + 2) j) else c1) S F 4 (j + 1) 0 := by
  by_cases hlt : j < c F 3
  · rw [if_pos hlt]
    obtain ⟨i1, i2, i3, i4, i5, i6, i7, i8, i9, i10⟩ := h
    have hQ := hS.2.2.2.2.2.2.2.2.2.1
    have hI := hS.2.2.2.2.2.2.2.2.2.2.1
    have hG := hF.2.2.2.2.2.2.2.2.2.1
    have qj := (hQ j hj hj8).1
    have gj := (hG j hj hj8).1
    have hap : ∀ i, 0 ≤ i → i < 8 → i ≠ j → c (S + 2) i ≠ c (S + 2) j ∧ c (S + 2) i ≠ c (S + 2) j + 1 ∧ c (S + 2) i + 1 ≠ c (S + 2) j := fun i i1 i2 i3 => by
      have := (hQ i i1 i2).1
      have : c (S + 2) i ≠ c (S + 2) j := by
        rcases Int.lt_or_gt_of_ne i3 with q | q
        · exact hI i j i1 q hj8
        · exact fun e => hI j i hj q i2 e.symm
      omega
    refine ⟨fun b hb k => ?_, fun b k hk => ?_, fun k => ?_, fun q q1 q2 => ?_, fun i a1 a2 => ?_, fun q q1 q2 => ?_, fun q q1 q2 => by omega, fun i a1 a2 a3 => ?_, fun i a1 a2 a3 => ?_, fun i a1 a2 => by omega⟩
    · rw [zcpS_o (by omega) (by omega)]; exact i1 b hb k
    · rw [zcpS_n hk]; exact i2 b k hk
    · rw [zcpS_o (by omega) (by omega), zcpS_o (by omega) (by omega), zcpS_o (by omega) (by omega), zcpS_o (by omega) (by omega)]; exact i3 k
    · rw [zcpS_o (by omega) (by omega), zcpS_o (by omega) (by omega)]; exact i4 q q1 q2
    · by_cases e : i = j
      · subst e; rw [zcpS_1]; exact i5 i a1 a2
      · obtain ⟨z1, z2, z3⟩ := hap i a1 a2 e
        rw [zcpS_o z1 z2]; exact i5 i a1 a2
    · obtain ⟨b1, b2, b3⟩ := i6 q q1 q2
      refine ⟨by rw [zcpS_o (by omega) (by omega)]; exact b1, by rw [zcpS_o (by omega) (by omega)]; exact b2, fun k k1 k2 => ?_⟩
      rw [zcpS_o (by omega) (by omega), zcpS_o (by omega) (by omega)]; exact b3 k k1 k2
    · by_cases e : i = j
      · subst e
        refine ⟨?_, ?_, ?_, fun k k1 k2 => ?_⟩
        · rw [zcpS_k (by omega)]; exact i1 _ (by omega) 0
        · rw [zcpS_k (by omega)]; exact i1 _ (by omega) 2
        · rw [zcpS_k (by omega)]; exact i1 _ (by omega) 3
        · rw [zcpS_h k1 k2]; exact i1 _ (by omega) k
      · obtain ⟨z1, z2, z3⟩ := hap i a1 (by omega) e
        obtain ⟨b1, b2, b3, b4⟩ := i8 i a1 (by omega) a3
        refine ⟨by rw [zcpS_o z1 z2]; exact b1, by rw [zcpS_o z1 z2]; exact b2, by rw [zcpS_o z1 z2]; exact b3, fun k k1 k2 => ?_⟩
        rw [zcpS_o (by omega) (by omega)]; exact b4 k k1 k2
    · obtain ⟨z1, z2, z3⟩ := hap i a1 a2 (by omega)
      rw [zcpS_o z1 z2]; exact i9 i a1 a2 (by omega)
  · rw [if_neg hlt]
    obtain ⟨i1, i2, i3, i4, i5, i6, i7, i8, i9, i10⟩ := h
    exact ⟨i1, i2, i3, i4, i5, i6, i7, fun i a1 a2 a3 => i8 i a1 (by omega) a3, fun i a1 a2 a3 => i9 i a1 a2 (by omega), fun i a1 a2 => by omega⟩
theorem ICp_r {c c1 : zC} {S F j : Int} (hS : LState c S) (hF : LState c F) (hd : S + 38 ≤ F ∨ F + 38 ≤ S) (h : ICp c c1 S F 4 8 j) (hj : 0 ≤ j) (hj8 : j < 6) : ICp c (if j < c F 4 then zcpR c1 (c (S + 3) j) (c (F + 3) j) else c1) S F 4 8 (j + 1) := by
  by_cases hlt : j < c F 4
  · rw [if_pos hlt]
    obtain ⟨i1, i2, i3, i4, i5, i6, i7, i8, i9, i10⟩ := h
    have hQ := hS.2.2.2.2.2.2.2.2.2.1
    have hR := hS.2.2.2.2.2.2.2.2.2.2.2.1
    have hI := hS.2.2.2.2.2.2.2.2.2.2.2.2.1
    have hG := hF.2.2.2.2.2.2.2.2.2.2.2.1
    have qj := (hR j hj hj8).1
    have gj := (hG j hj hj8).1
    have hap : ∀ i, 0 ≤ i → i < 6 → i ≠ j → c (S + 3) i ≠ c (S + 3) j := fun i i1 i2 i3 => by
      rcases Int.lt_or_gt_of_ne i3 with q | q
      · exact hI i j i1 q hj8
      · exact fun e => hI j i hj q i2 e.symm
    refine ⟨fun b hb k => ?_, fun b k hk => ?_, fun k => ?_, fun q q1 q2 => ?_, fun i a1 a2 => ?_, fun q q1 q2 => ?_, fun q q1 q2 => by omega, fun i a1 a2 a3 => ?_, fun i a1 a2 a3 => ?_, fun i a1 a2 a3 k k1 k2 => ?_⟩
    · rw [zcpR_o (by omega)]; exact i1 b hb k
    · rw [zcpR_n hk]; exact i2 b k hk
    · rw [zcpR_o (by omega), zcpR_o (by omega), zcpR_o (by omega), zcpR_o (by omega)]; exact i3 k
    · rw [zcpR_o (by omega), zcpR_o (by omega)]; exact i4 q q1 q2
    · have := (hQ i a1 a2).1
      rw [zcpR_o (by omega)]; exact i5 i a1 a2
    · obtain ⟨b1, b2, b3⟩ := i6 q q1 q2
      refine ⟨by rw [zcpR_o (by omega)]; exact b1, by rw [zcpR_o (by omega)]; exact b2, fun k k1 k2 => ?_⟩
      rw [zcpR_o (by omega), zcpR_o (by omega)]; exact b3 k k1 k2
    · have := (hQ i a1 a2).1
      obtain ⟨b1, b2, b3, b4⟩ := i8 i a1 a2 a3
      refine ⟨by rw [zcpR_o (by omega)]; exact b1, by rw [zcpR_o (by omega)]; exact b2, by rw [zcpR_o (by omega)]; exact b3, fun k k1 k2 => ?_⟩
      rw [zcpR_o (by omega)]; exact b4 k k1 k2
    · have := (hQ i a1 a2).1
      rw [zcpR_o (by omega)]; exact i9 i a1 a2 a3
    · by_cases e : i = j
      · subst e; rw [zcpR_k k1 k2]; exact i1 _ (by omega) k
      · rw [zcpR_o (hap i a1 (by omega) e)]; exact i10 i a1 (by omega) a3 k k1 k2
  · rw [if_neg hlt]
    obtain ⟨i1, i2, i3, i4, i5, i6, i7, i8, i9, i10⟩ := h
    exact ⟨i1, i2, i3, i4, i5, i6, i7, i8, i9, fun i a1 a2 a3 => i10 i a1 (by omega) a3⟩
theorem ICp_0 (c : zC) (S F : Int) : ICp c c S F 0 0 0 := ⟨fun _ _ _ => rfl, fun _ _ _ => rfl, fun _ => ⟨rfl, rfl, rfl, rfl⟩, fun _ _ _ => ⟨rfl, rfl⟩, fun _ _ _ => rfl, fun _ _ _ => by omega, fun _ _ _ => rfl, fun _ _ _ => by omega, fun _ _ _ _ => rfl, fun _ _ _ => by omega⟩
theorem zs_T_cp_p (d : Nat) {c : zC} {S F : Int} (hS : LState c S) (hF : LState c F) (hd : S + 38 ≤ F ∨ F + 38 ≤ S) : ∀ (t : Nat) (G : Nat) (p : Int) (c1 : zC), t ≤ G → p + t = 4 → 0 ≤ p → ICp c c1 S F p 0 0 → ∃ c2, zex zc_X8_copyFrom zk_X8_copyFrom (zrun zTab (d + 2)) (G + 1) 7 [(2, S), (2, F), (0, p)] [] c1 = zex zc_X8_copyFrom zk_X8_copyFrom (zrun zTab (d + 2)) (G - t) 47 [(2, S), (2, F), (0, 0)] [] c2 ∧ ICp c c2 S F 4 0 0 := by
  intro t
  induction t with
  | zero =>
    intro G p c1 hG hp h0 hI
    have : p = 4 := by omega
    subst this
    have hL := ICp_L hS hF hI (by omega)
    obtain ⟨l0, l1, l2, l3, l4, ⟨l5, l6⟩, -⟩ := hL
    refine ⟨c1, ?_, hI⟩
    rw [ze_X8_copyFrom_7, if_pos l1, l2, if_pos l5, l6, if_neg (by decide)]
    rfl
  | succ t ih =>
    intro G p c1 hG hp h0 hI
    obtain ⟨G, rfl⟩ : ∃ H, G = H + 1 := ⟨G - 1, by omega⟩
    have hL := ICp_L hS hF hI (by omega)
    obtain ⟨hLF, -⟩ := ICp_F hF hd hI
    have hpg := hL.2.2.2.2.2.2.2.2.1 p h0 (by omega)
    have hpf := hLF.2.2.2.2.2.2.2.2.1 p h0 (by omega)
    have f0 := hLF.1
    have hn := ICp_p hS hd hI h0 (by omega)
    obtain ⟨c2, e1, e2⟩ := ih G (p + 1) _ (by omega) (by omega) (by omega) hn
    refine ⟨c2, ?_, e2⟩
    have hsub : G + 1 - (t + 1) = G - t := by omega
    rw [hsub, ← e1]
    have hpa := zs_T_pageAt (d + 1) (p := p) c1 hLF
    have hcp := zs_P_copyFrom d c1 hpg.2 hpf.2 (by omega) (by omega)
    obtain ⟨l0, l1, l2, l3, l4, ⟨l5, l6⟩, -⟩ := hL
    rw [ze_X8_copyFrom_7, if_pos l1, l2, if_pos l5, l6, if_pos (by omega), if_pos l1, if_pos ⟨l5, h0, by omega⟩, hpg.1, if_neg (by omega), if_pos l1, if_pos ⟨l5, h0, by omega⟩, if_pos hLF.2.1, hpa, zbnd_some, if_pos hpg.2.1, if_pos (show 0 ≤ p ∧ p < 4 from ⟨h0, by omega⟩), hcp, zbnd_some, zw_id' (by omega) (by omega)]
theorem zs_T_cp_s (d : Nat) {c : zC} {S F : Int} (hS : LState c S) (hF : LState c F) (hd : S + 38 ≤ F ∨ F + 38 ≤ S) : ∀ (t : Nat) (G : Nat) (p : Int) (c1 : zC), t ≤ G → p + t = 8 → 0 ≤ p → ICp c c1 S F 4 p 0 → ∃ c2, zex zc_X8_copyFrom zk_X8_copyFrom (zrun zTab (d + 2)) (G + 1) 47 [(2, S), (2, F), (0, p)] [] c1 = zex zc_X8_copyFrom zk_X8_copyFrom (zrun zTab (d + 2)) (G - t) 87 [(2, S), (2, F), (0, 0)] [] c2 ∧ ICp c c2 S F 4 8 0 := by
  intro t
  induction t with
  | zero =>
    intro G p c1 hG hp h0 hI
    have : p = 8 := by omega
    subst this
    have hL := ICp_L hS hF hI (by omega)
    obtain ⟨l0, l1, l2, l3, l4, -, ⟨l5, l6⟩, -⟩ := hL
    refine ⟨c1, ?_, hI⟩
    rw [ze_X8_copyFrom_47, if_pos l1, l3, if_pos l5, l6, if_neg (by decide)]
    rfl
  | succ t ih =>
    intro G p c1 hG hp h0 hI
    obtain ⟨G, rfl⟩ : ∃ H, G = H + 1 := ⟨G - 1, by omega⟩
    have hL := ICp_L hS hF hI (by omega)
    obtain ⟨hLF, hb⟩ := ICp_F hF hd hI
    have hQ := hL.2.2.2.2.2.2.2.2.2.1 p h0 (by omega)
    have hQF := hLF.2.2.2.2.2.2.2.2.2.1 p h0 (by omega)
    have f0 := hLF.1
    have hn := ICp_s hS hF hd hI h0 (by omega)
    have q1 : c1 (S + 2) p = c (S + 2) p := (hI.2.2.1 p).2.2.1
    have q2 : c1 (F + 2) p = c (F + 2) p := hb _ (by omega) (by omega) p
    have q3 : c1 F 3 = c F 3 := hb _ (by omega) (by omega) 3
    obtain ⟨c2, e1, e2⟩ := ih G (p + 1) _ (by omega) (by omega) (by omega) hn
    refine ⟨c2, ?_, e2⟩
    have hsub : G + 1 - (t + 1) = G - t := by omega
    rw [hsub, ← e1]
    have hpa := zs_T_senseAt (d + 1) (j := p) c1 hLF
    have hq1 := hQ.1
    have hq2 := hQF.1
    have hcp : zrun zTab (d + 2) 65 [c1 (S + 2) p, if 0 ≤ p ∧ p < c1 F 3 then c1 (F + 2) p else 0] c1 = some (0, if p < c F 3 then zcpS c1 (c (S + 2) p) (c (F + 2) p) else c1) := by
      by_cases a : p < c F 3
      · rw [if_pos (show 0 ≤ p ∧ p < c1 F 3 from ⟨h0, by omega⟩), if_pos a, zs_S_copyFrom (d + 1) c1 hQ.2 hQF.2 (by omega) (by omega), q1, q2]
      · rw [if_neg (show ¬ (0 ≤ p ∧ p < c1 F 3) by omega), if_neg a, zs_S_copyFrom0]
    obtain ⟨l0, l1, l2, l3, l4, -, ⟨l5, l6⟩, -⟩ := hL
    rw [ze_X8_copyFrom_47, if_pos l1, l3, if_pos l5, l6, if_pos (by omega), if_pos l1, if_pos ⟨l5, h0, by omega⟩, if_neg (by omega), if_pos l1, if_pos ⟨l5, h0, by omega⟩, if_pos hLF.2.1, hpa, zbnd_some, if_pos hQ.2.1, hcp, zbnd_some, zw_id' (by omega) (by omega)]
/-- the state's contents are another's -/
def SEq (c1 : zC) (S : Int) (c : zC) (F : Int) : Prop :=
  (∀ p, 0 ≤ p → p < 4 → c1 (S + 4 + 3 * p) 2 = c (F + 4 + 3 * p) 2 ∧ c1 (S + 4 + 3 * p) 3 = c (F + 4 + 3 * p) 3 ∧ ∀ k, 0 ≤ k → k < 20 → c1 (S + 5 + 3 * p) k = c (F + 5 + 3 * p) k ∧ c1 (S + 6 + 3 * p) k = c (F + 6 + 3 * p) k) ∧
  (∀ j, 0 ≤ j → j < c F 3 → c1 (c1 (S + 2) j) 0 = c (c (F + 2) j) 0 ∧ c1 (c1 (S + 2) j) 2 = c (c (F + 2) j) 2 ∧ c1 (c1 (S + 2) j) 3 = c (c (F + 2) j) 3 ∧ ∀ k, 0 ≤ k → k < 4 → c1 (c1 (S + 2) j + 1) k = c (c (F + 2) j + 1) k) ∧
  (∀ j, 0 ≤ j → j < c F 4 → ∀ k, 0 ≤ k → k ≤ 3 → c1 (c1 (S + 3) j) k = c (c (F + 3) j) k) ∧
  c1 S 3 = c F 3 ∧ c1 S 4 = c F 4 ∧ c1 S 5 = c F 5 ∧ c1 S 6 = c F 6
/-- what a copy leaves -/
def zCpd (c c' : zC) (S F : Int) : Prop := (∀ b, (b < S ∨ S + 38 ≤ b) → ∀ k, c' b k = c b k) ∧ (∀ b k, k < 0 → c' b k = c b k) ∧ LState c' S ∧ SEq c' S c F
theorem zs_T_cp_r (d : Nat) {c : zC} {S F : Int} (hS : LState c S) (hF : LState c F) (hd : S + 38 ≤ F ∨ F + 38 ≤ S) : ∀ (t : Nat) (G : Nat) (p : Int) (c1 : zC), t ≤ G → p + t = 6 → 0 ≤ p → ICp c c1 S F 4 8 p → ∃ c2, zex zc_X8_copyFrom zk_X8_copyFrom (zrun zTab (d + 2)) (G + 1) 87 [(2, S), (2, F), (0, p)] [] c1 = some (0, c2) ∧ zCpd c c2 S F := by
  intro t
  induction t with
  | zero =>
    intro G p c1 hG hp h0 hI
    have : p = 6 := by omega
    subst this
    have hL := ICp_L hS hF hI (by omega)
    obtain ⟨hLF, hb⟩ := ICp_F hF hd hI
    obtain ⟨l0, l1, l2, l3, l4, l5', l6', ⟨l5, l6⟩, l7, l8, l9, l10, l11, l12⟩ := hL
    have f1 := hLF.2.1
    have bF := hb F (by omega) (by omega)
    have f0 := hLF.1
    have hne : F ≠ S := by omega
    refine ⟨zup (zup (zup (zup c1 S 3 (c1 F 3)) S 4 (c1 F 4)) S 5 (c1 F 5)) S 6 (c1 F 6), ?_, ?_⟩
    · rw [ze_X8_copyFrom_87, if_pos l1, l4, if_pos l5, l6, if_neg (by decide)]
      clear hb bF l7 l8 l9 l10 l11
      grind [zup]
    · generalize hz : zup (zup (zup (zup c1 S 3 (c1 F 3)) S 4 (c1 F 4)) S 5 (c1 F 5)) S 6 (c1 F 6) = z
      have zo : ∀ b k, b ≠ S → z b k = c1 b k := fun b k hb => by rw [← hz, zup_ne (Or.inl hb), zup_ne (Or.inl hb), zup_ne (Or.inl hb), zup_ne (Or.inl hb)]
      have zk : ∀ k, k < 3 → z S k = c1 S k := fun k hk => by rw [← hz, zup_ne (by omega), zup_ne (by omega), zup_ne (by omega), zup_ne (by omega)]
      have z3 : z S 3 = c F 3 := by rw [← hz, zup_ne (by omega), zup_ne (by omega), zup_ne (by omega), zup_eq ⟨rfl, rfl⟩]; exact bF 3
      have z4 : z S 4 = c F 4 := by rw [← hz, zup_ne (by omega), zup_ne (by omega), zup_eq ⟨rfl, rfl⟩]; exact bF 4
      have z5 : z S 5 = c F 5 := by rw [← hz, zup_ne (by omega), zup_eq ⟨rfl, rfl⟩]; exact bF 5
      have z6 : z S 6 = c F 6 := by rw [← hz, zup_eq ⟨rfl, rfl⟩]; exact bF 6
      obtain ⟨i1, i2, i3, i4, i5, i6, i7, i8, i9, i10⟩ := hI
      have hF3 := hF.2.2.2.2.2.2.2.2.2.2.2.2.2
      refine ⟨fun b hb k => ?_, fun b k hk => ?_, ?_, ?_⟩
      · rw [zo b k (by omega)]; exact i1 b hb k
      · by_cases e : b = S
        · subst e; rw [zk k (by omega)]; exact i2 b k hk
        · rw [zo b k e]; exact i2 b k hk
      · refine ⟨l0, by rw [zk _ (by decide)]; exact l1, by rw [zk _ (by decide)]; exact l2, by rw [zk _ (by decide)]; exact l3, by rw [zk _ (by decide)]; exact l4, ⟨by rw [zo _ _ (by omega)]; exact l5'.1, by rw [zo _ _ (by omega)]; exact l5'.2⟩, ⟨by rw [zo _ _ (by omega)]; exact l6'.1, by rw [zo _ _ (by omega)]; exact l6'.2⟩, ⟨by rw [zo _ _ (by omega)]; exact l5, by rw [zo _ _ (by omega)]; exact l6⟩, fun q q1 q2 => ?_, fun j j1 j2 => ?_, fun i j j1 j2 j3 => ?_, fun j j1 j2 => ?_, fun i j j1 j2 j3 => ?_, by rw [z3, z4]; exact hF3⟩
        · obtain ⟨a1, a2, a3, a4, a5, a6, a7⟩ := l7 q q1 q2
          refine ⟨by rw [zo _ _ (by omega)]; exact a1, by rw [zo _ _ (by omega)]; exact a2, by rw [zo _ _ (by omega)]; exact a3, by rw [zo _ _ (by omega)]; exact a4, ⟨by rw [zo _ _ (by omega)]; exact a5.1, by rw [zo _ _ (by omega)]; exact a5.2⟩, ⟨by rw [zo _ _ (by omega)]; exact a6.1, by rw [zo _ _ (by omega)]; exact a6.2⟩, by rw [zo _ _ (by omega)]; exact a7⟩
        · obtain ⟨a1, a2, a3, a4, a5⟩ := l8 j j1 j2
          rw [zo (S + 2) _ (by omega)]
          refine ⟨a1, by rw [zo _ _ (by omega)]; exact a2, by rw [zo _ _ (by omega)]; exact a3, ⟨by rw [zo _ _ (by omega)]; exact a4.1, by rw [zo _ _ (by omega)]; exact a4.2⟩, by rw [zo _ _ (by omega)]; exact a5⟩
        · rw [zo _ _ (by omega), zo _ _ (by omega)]; exact l9 i j j1 j2 j3
        · have := l10 j j1 j2
          rw [zo (S + 3) _ (by omega), zo _ _ (by omega)]; exact this
        · rw [zo _ _ (by omega), zo _ _ (by omega)]; exact l11 i j j1 j2 j3
      · have e2 := fun j => (i3 j).2.2.1
        have e3 := fun j => (i3 j).2.2.2
        refine ⟨fun q q1 q2 => ?_, fun j j1 j2 => ?_, fun j j1 j2 k k1 k2 => ?_, z3, z4, z5, z6⟩
        · obtain ⟨b1, b2, b3⟩ := i6 q q1 q2
          refine ⟨by rw [zo _ _ (by omega)]; exact b1, by rw [zo _ _ (by omega)]; exact b2, fun k k1 k2 => ?_⟩
          rw [zo _ _ (by omega), zo _ _ (by omega)]; exact b3 k k1 k2
        · have hq := (l8 j j1 (by omega)).1
          rw [e2] at hq
          obtain ⟨b1, b2, b3, b4⟩ := i8 j j1 (by omega) j2
          rw [zo (S + 2) _ (by omega), e2]
          refine ⟨by rw [zo _ _ (by omega)]; exact b1, by rw [zo _ _ (by omega)]; exact b2, by rw [zo _ _ (by omega)]; exact b3, fun k k1 k2 => ?_⟩
          rw [zo _ _ (by omega)]; exact b4 k k1 k2
        · have hq := (l10 j j1 (by omega)).1
          rw [e3] at hq
          rw [zo (S + 3) _ (by omega), e3, zo _ _ (by omega)]
          exact i10 j j1 (by omega) j2 k k1 k2
  | succ t ih =>
    intro G p c1 hG hp h0 hI
    obtain ⟨G, rfl⟩ : ∃ H, G = H + 1 := ⟨G - 1, by omega⟩
    have hL := ICp_L hS hF hI (by omega)
    obtain ⟨hLF, hb⟩ := ICp_F hF hd hI
    have hQ := hL.2.2.2.2.2.2.2.2.2.2.2.1 p h0 (by omega)
    have hQF := hLF.2.2.2.2.2.2.2.2.2.2.2.1 p h0 (by omega)
    have f0 := hLF.1
    have hn := ICp_r hS hF hd hI h0 (by omega)
    have q1 : c1 (S + 3) p = c (S + 3) p := (hI.2.2.1 p).2.2.2
    have q2 : c1 (F + 3) p = c (F + 3) p := hb _ (by omega) (by omega) p
    have q3 : c1 F 4 = c F 4 := hb _ (by omega) (by omega) 4
    obtain ⟨c2, e1, e2⟩ := ih G (p + 1) _ (by omega) (by omega) (by omega) hn
    refine ⟨c2, ?_, e2⟩
    rw [← e1]
    have hpa := zs_T_ruleAt (d + 1) (j := p) c1 hLF
    have hq1 := hQ.1
    have hq2 := hQF.1
    have hcp : zrun zTab (d + 2) 61 [c1 (S + 3) p, if 0 ≤ p ∧ p < c1 F 4 then c1 (F + 3) p else 0] c1 = some (0, if p < c F 4 then zcpR c1 (c (S + 3) p) (c (F + 3) p) else c1) := by
      by_cases a : p < c F 4
      · rw [if_pos (show 0 ≤ p ∧ p < c1 F 4 from ⟨h0, by omega⟩), if_pos a, zs_R_copyFrom (d + 1) c1 hQ.2 hQF.2 (by omega) (by omega), q1, q2]
      · rw [if_neg (show ¬ (0 ≤ p ∧ p < c1 F 4) by omega), if_neg a, zs_R_copyFrom0]
    obtain ⟨l0, l1, l2, l3, l4, -, -, ⟨l5, l6⟩, -⟩ := hL
    rw [ze_X8_copyFrom_87, if_pos l1, l4, if_pos l5, l6, if_pos (by omega), if_pos l1, if_pos ⟨l5, h0, by omega⟩, if_neg (by omega), if_pos l1, if_pos ⟨l5, h0, by omega⟩, if_pos hLF.2.1, hpa, zbnd_some, if_pos hQ.2, hcp, zbnd_some, zw_id' (by omega) (by omega)]
theorem zs_T_copyFrom (d : Nat) {c : zC} {S F : Int} (hS : LState c S) (hF : LState c F) (hd : S + 38 ≤ F ∨ F + 38 ≤ S) : ∃ c', zrun zTab (d + 3) 75 [S, F] c = some (0, c') ∧ zCpd c c' S F := by
  have f0 := hF.1
  obtain ⟨c1, e1, i1⟩ := zs_T_cp_p d hS hF hd 4 19998 0 c (by decide) (by decide) (by decide) (ICp_0 c S F)
  obtain ⟨c2, e2, i2⟩ := zs_T_cp_s d hS hF hd 8 19993 0 c1 (by decide) (by decide) (by decide) i1
  obtain ⟨c3, e3, i3⟩ := zs_T_cp_r d hS hF hd 6 19984 0 c2 (by decide) (by decide) (by decide) i2
  refine ⟨c3, ?_, i3⟩
  rw [ze_X8_copyFrom, if_neg (by omega)]
  exact e1.trans (e2.trans e3)
