/-! The class itself: the tape is fed and read. -/
theorem LTp.far1 {c c' : zC} {T : Int} (h : LTp c T) (g : ∀ b k, (b = T ∧ (k < 0 ∨ k = 0 ∨ 5 ≤ k ∧ k ≤ 7) ∨ T < b ∧ b ≤ T + 7 ∧ k < 0 ∨ b = T + 2 ∧ k < 2 ∨ b = T + 5 ∧ k = 1) → c' b k = c b k) (n : 0 ≤ c' T 1 ∧ c' T 1 ≤ 80) (p : 0 ≤ c' (T + 2) 2 ∧ c' (T + 2) 2 ≤ 20) (s : 0 ≤ c' (T + 5) 2 ∧ c' (T + 5) 2 ≤ 4) : LTp c' T := by
  obtain ⟨h0, h1, h2, ⟨h3, h4⟩, h5, ⟨h6, q1, q2, q3, ⟨q4, q5⟩, ⟨q6, q7⟩, -⟩, ⟨h7, r1, r2, ⟨r3, r4⟩, -⟩, h8, h9⟩ := h
  exact ⟨h0, by rw [g _ _ (by omega)]; exact h1, by rw [g _ _ (by omega)]; exact h2, ⟨by rw [g _ _ (by omega)]; exact h3, by rw [g _ _ (by omega)]; exact h4⟩, n, ⟨by rw [g _ _ (by omega)]; exact h6, by rw [g _ _ (by omega)]; exact q1, by rw [g _ _ (by omega)]; exact q2, by rw [g _ _ (by omega)]; exact q3, ⟨by rw [g _ _ (by omega)]; exact q4, by rw [g _ _ (by omega)]; exact q5⟩, ⟨by rw [g _ _ (by omega)]; exact q6, by rw [g _ _ (by omega)]; exact q7⟩, p⟩,
    ⟨by rw [g _ _ (by omega)]; exact h7, by rw [g _ _ (by omega)]; exact r1, by rw [g _ _ (by omega)]; exact r2, ⟨by rw [g _ _ (by omega)]; exact r3, by rw [g _ _ (by omega)]; exact r4⟩, s⟩, by rw [g _ _ (by omega)]; exact h8, by rw [g _ _ (by omega)]; exact h9⟩
section
variable {c : zC} {σ : aS} (d : Nat)
theorem RC.rd {c' : zC} {s : tS} (h : RC c σ) (g : ∀ b, (b < 3 ∨ 11 ≤ b) → ∀ k, c' b k = c b k) (t : LTp c' 3) (e1 : c' 3 1 = 0) (e2 : c' 4 = c 4) (e3 : c' 3 4 = s.2.2) : RC c' (aRd σ s) :=
  h.tp g t (fun k k0 k1 => by rw [e1] at k1; omega) e1 (e2.trans h.2.1.2.2.2.1.2.1) e3
/-- what is on the tape -/
theorem RC.tB (h : RC c σ) : c (3 + 1) = σ.2.2.2.1.2.1 ∧ c 3 1 = σ.2.2.2.1.1 ∧ c 3 4 = σ.2.2.2.1.2.2 := ⟨h.2.1.2.2.2.1.2.1, h.2.1.2.2.2.1.1, h.2.1.2.2.2.1.2.2⟩
theorem G_rdWord (h : RC c σ) : ∃ c1, zrun zTab (d + 5) 81 [3] c = some (if (tOne σ.2.2.2.1.2.1 σ.2.2.2.1.1 σ.2.2.2.1.2.2).2.2.1 = -1 then 1 else 0, c1) ∧ RC c1 (aRd σ (tOne σ.2.2.2.1.2.1 σ.2.2.2.1.1 σ.2.2.2.1.2.2).2) ∧ c1 3 3 = (tOne σ.2.2.2.1.2.1 σ.2.2.2.1.1 σ.2.2.2.1.2.2).2.2.1 ∧ c1 3 8 = (tOne σ.2.2.2.1.2.1 σ.2.2.2.1.1 σ.2.2.2.1.2.2).1 ∧ ∀ b, (b < 3 ∨ 11 ≤ b) → ∀ k, c1 b k = c b k := by
  obtain ⟨t1, t2⟩ := h.1.2.1
  have r := zs_Y_readWord d t1 (c 3 2, c 3 3, c 3 4)
  rw [zps_id, h.tB.1, h.tB.2.1] at r
  dsimp only at r
  rw [h.tB.2.2] at r
  unfold tOne
  dsimp only
  generalize tWrd σ.2.2.2.1.2.1 σ.2.2.2.1.1 True (0, -1, σ.2.2.2.1.2.2) = W at r ⊢
  generalize tEnd σ.2.2.2.1.2.1 σ.2.2.2.1.1 W.2 = s at r ⊢
  have o : ∀ b k, (b ≠ 3 ∨ k < 1 ∨ 4 < k ∧ k ≠ 8) → zps (zup (zup c 3 8 W.1) 3 1 0) 3 s b k = c b k := fun b k q => by rw [zps_o (by omega), zup_ne (by omega), zup_ne (by omega)]
  have e1 : zps (zup (zup c 3 8 W.1) 3 1 0) 3 s 3 1 = 0 := by rw [zps_o (by omega), zup_eq ⟨rfl, rfl⟩]
  have hP := t1.2.2.2.2.2.1.2.2.2.2.2.2
  have hS := t1.2.2.2.2.2.2.1.2.2.2.2
  refine ⟨_, r, h.rd (fun b hb k => o b k (by omega)) (t1.far1 (fun b k q => o b k (by omega)) (by rw [e1]; omega) (by rw [o _ _ (by omega)]; exact hP) (by rw [o _ _ (by omega)]; exact hS)) e1 (funext (fun k => o 4 k (by omega))) zps_4, zps_3, ?_, fun b hb k => o b k (by omega)⟩
  rw [zps_o (by omega), zup_ne (by omega), zup_eq ⟨rfl, rfl⟩]
theorem G_rdRule (h : RC c σ) : ∃ c1, zrun zTab (d + 5) 80 [3] c = some (if (tRul σ.2.2.2.1.2.1 σ.2.2.2.1.1 σ.2.2.2.1.2.2).2.2.2.1 = -1 then 1 else 0, c1) ∧ RC c1 (aRd σ (tRul σ.2.2.2.1.2.1 σ.2.2.2.1.1 σ.2.2.2.1.2.2).2.2) ∧ c1 3 3 = (tRul σ.2.2.2.1.2.1 σ.2.2.2.1.1 σ.2.2.2.1.2.2).2.2.2.1 ∧
    (c1 10 0 = (tRul σ.2.2.2.1.2.1 σ.2.2.2.1.1 σ.2.2.2.1.2.2).1 ∧ c1 10 1 = (tRul σ.2.2.2.1.2.1 σ.2.2.2.1.1 σ.2.2.2.1.2.2).2.1 ∧ c1 10 2 = 5 * mlen (tRul σ.2.2.2.1.2.1 σ.2.2.2.1.1 σ.2.2.2.1.2.2).1 ∧ c1 10 3 = 5 * mlen (tRul σ.2.2.2.1.2.1 σ.2.2.2.1.1 σ.2.2.2.1.2.2).2.1) ∧ ∀ b, (b < 3 ∨ 11 ≤ b) → ∀ k, c1 b k = c b k := by
  obtain ⟨t1, t2⟩ := h.1.2.1
  have r := zs_Y_readRule d t1 (c 3 2, c 3 3, c 3 4)
  rw [zps_id, h.tB.1, h.tB.2.1] at r
  dsimp only at r
  rw [h.tB.2.2] at r
  generalize tRul σ.2.2.2.1.2.1 σ.2.2.2.1.1 σ.2.2.2.1.2.2 = W at r ⊢
  obtain ⟨e, f, s⟩ := W
  have o : ∀ b k, (b ≠ 3 ∨ k < 1 ∨ 4 < k) → (b ≠ 10 ∨ k < 0 ∨ 3 < k) → zps (zup (zrul c (3 + 7) e f) 3 1 0) 3 s b k = c b k := fun b k q q2 => by rw [zps_o (by omega), zup_ne (by omega)]; unfold zrul; rw [zup_ne (by omega), zup_ne (by omega), zup_ne (by omega), zup_ne (by omega)]
  have o10 : ∀ k, zps (zup (zrul c (3 + 7) e f) 3 1 0) 3 s 10 k = zrul c (3 + 7) e f 10 k := fun k => by rw [zps_o (by omega), zup_ne (by omega)]
  have e1 : zps (zup (zrul c (3 + 7) e f) 3 1 0) 3 s 3 1 = 0 := by rw [zps_o (by omega), zup_eq ⟨rfl, rfl⟩]
  have hP := t1.2.2.2.2.2.1.2.2.2.2.2.2
  have hS := t1.2.2.2.2.2.2.1.2.2.2.2
  refine ⟨_, r, h.rd (fun b hb k => o b k (by omega) (by omega)) (t1.far1 (fun b k q => o b k (by omega) (by omega)) (by rw [e1]; omega) (by rw [o _ _ (by omega) (by omega)]; exact hP) (by rw [o _ _ (by omega) (by omega)]; exact hS)) e1 (funext (fun k => o 4 k (by omega) (by omega))) zps_4, zps_3, ⟨?_, ?_, ?_, ?_⟩, fun b hb k => o b k (by omega) (by omega)⟩
  · rw [o10]; unfold zrul; rw [zup_ne (by omega), zup_ne (by omega), zup_ne (by omega), zup_eq (by omega)]
  · rw [o10]; unfold zrul; rw [zup_ne (by omega), zup_ne (by omega), zup_eq (by omega)]
  · rw [o10]; unfold zrul; rw [zup_ne (by omega), zup_eq (by omega)]
  · rw [o10]; unfold zrul; rw [zup_eq (by omega)]
theorem G_rdSense (h : RC c σ) : ∃ c1, zrun zTab (d + 6) 79 [3] c = some (if (tS5 σ.2.2.2.1.2.1 σ.2.2.2.1.1 σ.2.2.2.1.2.2).2.1 = -1 then 1 else 0, c1) ∧ RC c1 (aRd σ (tS5 σ.2.2.2.1.2.1 σ.2.2.2.1.1 σ.2.2.2.1.2.2)) ∧ c1 3 3 = (tS5 σ.2.2.2.1.2.1 σ.2.2.2.1.1 σ.2.2.2.1.2.2).2.1 ∧
    (c1 8 0 = (tS1 σ.2.2.2.1.2.1 σ.2.2.2.1.1 σ.2.2.2.1.2.2).1 ∧ c1 8 2 = ((tS3 σ.2.2.2.1.2.1 σ.2.2.2.1.1 σ.2.2.2.1.2.2).1.length : Int) ∧ c1 8 3 = (tS4 σ.2.2.2.1.2.1 σ.2.2.2.1.1 σ.2.2.2.1.2.2).1 ∧ ∀ k, 0 ≤ k → k < ((tS3 σ.2.2.2.1.2.1 σ.2.2.2.1.1 σ.2.2.2.1.2.2).1.length : Int) → c1 9 k = (tS3 σ.2.2.2.1.2.1 σ.2.2.2.1.1 σ.2.2.2.1.2.2).1.getD k.toNat 0) ∧ ∀ b, (b < 3 ∨ 11 ≤ b) → ∀ k, c1 b k = c b k := by
  obtain ⟨t1, t2⟩ := h.1.2.1
  have r := zs_Y_readSense d t1 t2 (c 3 2, c 3 3, c 3 4)
  rw [zps_id, h.tB.1, h.tB.2.1] at r
  dsimp only at r
  rw [h.tB.2.2] at r
  have hl := tS3_len (B := σ.2.2.2.1.2.1) (n := σ.2.2.2.1.1) (ca := σ.2.2.2.1.2.2)
  generalize (tS1 σ.2.2.2.1.2.1 σ.2.2.2.1.1 σ.2.2.2.1.2.2).1 = x at r ⊢
  generalize (tS3 σ.2.2.2.1.2.1 σ.2.2.2.1.1 σ.2.2.2.1.2.2).1 = l at r hl ⊢
  generalize (tS4 σ.2.2.2.1.2.1 σ.2.2.2.1.1 σ.2.2.2.1.2.2).1 = y at r ⊢
  generalize tS5 σ.2.2.2.1.2.1 σ.2.2.2.1.1 σ.2.2.2.1.2.2 = s at r ⊢
  have o1 : ∀ b k, (b ≠ 3 ∨ k < 1 ∨ 4 < k) → zps (zup (zsn c 3 x l y) 3 1 0) 3 s b k = zsn c 3 x l y b k := fun b k q => by rw [zps_o (by omega), zup_ne (by omega)]
  have o : ∀ b k, (b ≠ 3 ∨ k < 1 ∨ 4 < k) → ((b ≠ 3 + 5 ∨ (k ≠ 0 ∧ k ≠ 2 ∧ k ≠ 3)) ∧ (b ≠ 3 + 6 ∨ k < 0)) → zps (zup (zsn c 3 x l y) 3 1 0) 3 s b k = c b k := fun b k q q2 => by rw [o1 b k q, zsn_far q2]
  have e1 : zps (zup (zsn c 3 x l y) 3 1 0) 3 s 3 1 = 0 := by rw [zps_o (by omega), zup_eq ⟨rfl, rfl⟩]
  have e2 : zps (zup (zsn c 3 x l y) 3 1 0) 3 s 8 2 = (l.length : Int) := by
    rw [o1 8 2 (by omega)]
    exact zhs_n
  have hP := t1.2.2.2.2.2.1.2.2.2.2.2.2
  refine ⟨_, r, h.rd (fun b hb k => o b k (by omega) (by omega)) (t1.far1 (fun b k q => o b k (by omega) (by omega)) (by rw [e1]; omega) (by rw [o _ _ (by omega) (by omega)]; exact hP) (by rw [show (3 : Int) + 5 = 8 from rfl, e2]; omega)) e1 (funext (fun k => o 4 k (by omega) (by omega))) zps_4, zps_3, ⟨?_, e2, ?_, fun k k0 k1 => ?_⟩, fun b hb k => o b k (by omega) (by omega)⟩
  · rw [o1 8 0 (by omega)]
    unfold zsn
    rw [zhs_o (by omega), zup_ne (by omega), zup_eq (by omega)]
  · rw [o1 8 3 (by omega)]
    exact zsn_3
  · rw [o1 9 k (by omega)]
    unfold zsn zhs
    rw [if_pos ⟨rfl, k0, k1⟩]
theorem G_rdPage (h : RC c σ) : ∃ c1, zrun zTab (d + 6) 78 [3] c = some (if (tPag σ.2.2.2.1.2.1 σ.2.2.2.1.1 σ.2.2.2.1.2.2).2.2.1 = -1 then 1 else 0, c1) ∧ RC c1 (aRd σ (tPag σ.2.2.2.1.2.1 σ.2.2.2.1.1 σ.2.2.2.1.2.2).2) ∧ c1 3 3 = (tPag σ.2.2.2.1.2.1 σ.2.2.2.1.1 σ.2.2.2.1.2.2).2.2.1 ∧
    (c1 5 2 = ((tPag σ.2.2.2.1.2.1 σ.2.2.2.1.1 σ.2.2.2.1.2.2).1.length : Int) ∧ (∀ k, 0 ≤ k → k < ((tPag σ.2.2.2.1.2.1 σ.2.2.2.1.1 σ.2.2.2.1.2.2).1.length : Int) → c1 7 k = ((tPag σ.2.2.2.1.2.1 σ.2.2.2.1.1 σ.2.2.2.1.2.2).1.getD k.toNat (0, 0)).2 ∧ c1 6 k = ((tPag σ.2.2.2.1.2.1 σ.2.2.2.1.1 σ.2.2.2.1.2.2).1.getD k.toNat (0, 0)).1) ∧ (tPag σ.2.2.2.1.2.1 σ.2.2.2.1.1 σ.2.2.2.1.2.2).1.length ≤ 20) ∧ ∀ b, (b < 3 ∨ 11 ≤ b) → ∀ k, c1 b k = c b k := by
  obtain ⟨t1, t2⟩ := h.1.2.1
  have r := zs_Y_readPage d t1 (c 3 2, c 3 3, c 3 4)
  rw [zps_id, h.tB.1, h.tB.2.1] at r
  dsimp only at r
  rw [h.tB.2.2] at r
  have hl : (tPag σ.2.2.2.1.2.1 σ.2.2.2.1.1 σ.2.2.2.1.2.2).1.length ≤ 20 := by
    unfold tPag
    split
    · exact Nat.zero_le _
    · exact tSec_len 80 0 [] _ (Nat.zero_le _)
  generalize tPag σ.2.2.2.1.2.1 σ.2.2.2.1.1 σ.2.2.2.1.2.2 = W at r hl ⊢
  obtain ⟨l, s⟩ := W
  dsimp only at r hl ⊢
  have o1 : ∀ b k, (b ≠ 3 ∨ k < 1 ∨ 4 < k) → zps (zup (zpl c 3 l) 3 1 0) 3 s b k = zpl c 3 l b k := fun b k q => by rw [zps_o (by omega), zup_ne (by omega)]
  have o : ∀ b k, (b ≠ 3 ∨ k < 1 ∨ 4 < k) → ((b ≠ 3 + 3 ∧ b ≠ 3 + 4 ∨ k < 0) ∧ (b ≠ 3 + 2 ∨ k ≠ 2)) → zps (zup (zpl c 3 l) 3 1 0) 3 s b k = c b k := fun b k q q2 => by rw [o1 b k q, zpl_o q2]
  have e1 : zps (zup (zpl c 3 l) 3 1 0) 3 s 3 1 = 0 := by rw [zps_o (by omega), zup_eq ⟨rfl, rfl⟩]
  have e2 : zps (zup (zpl c 3 l) 3 1 0) 3 s 5 2 = (l.length : Int) := by
    rw [o1 5 2 (by omega)]
    exact zpl_n
  have hS := t1.2.2.2.2.2.2.1.2.2.2.2
  refine ⟨_, r, h.rd (fun b hb k => o b k (by omega) (by omega)) (t1.far1 (fun b k q => o b k (by omega) (by omega)) (by rw [e1]; omega) (by rw [show (3 : Int) + 2 = 5 from rfl, e2]; omega) (by rw [o _ _ (by omega) (by omega)]; exact hS)) e1 (funext (fun k => o 4 k (by omega) (by omega))) zps_4, zps_3, ⟨e2, fun k k0 k1 => ⟨?_, ?_⟩, hl⟩, fun b hb k => o b k (by omega) (by omega)⟩
  · rw [o1 7 k (by omega)]
    unfold zpl
    rw [if_neg (by omega), if_pos ⟨rfl, k0, k1⟩]
  · rw [o1 6 k (by omega)]
    unfold zpl
    rw [if_pos ⟨rfl, k0, k1⟩]
/-- one byte more -/
theorem RC.app (h : RC c σ) (hn : σ.2.2.2.1.1 < 80) {v : Int} (hv : isB v) : zrun zTab (d + 1) 77 [3, v] c = some (0, zup (zup c 4 (c 3 1) v) 3 1 (c 3 1 + 1)) ∧ RC (zup (zup c 4 (c 3 1) v) 3 1 (c 3 1 + 1)) (aTp σ (σ.2.2.2.1.1 + 1, bup σ.2.2.2.1.2.1 σ.2.2.2.1.1 v, σ.2.2.2.1.2.2)) := by
  obtain ⟨t1, t2⟩ := h.1.2.1
  have n0 := t1.2.2.2.2.1
  have e := h.tB
  have r := zs_Y_append d t1 v
  rw [if_pos (by rw [e.2.1]; exact hn)] at r
  have o : ∀ b k, (b ≠ 3 ∨ k ≠ 1) → (b ≠ 4 ∨ k ≠ c 3 1) → zup (zup c 4 (c 3 1) v) 3 1 (c 3 1 + 1) b k = c b k := fun b k q q2 => by rw [zup_ne q, zup_ne q2]
  have e1 : zup (zup c 4 (c 3 1) v) 3 1 (c 3 1 + 1) 3 1 = c 3 1 + 1 := zup_eq ⟨rfl, rfl⟩
  have hP := t1.2.2.2.2.2.1.2.2.2.2.2.2
  have hS := t1.2.2.2.2.2.2.1.2.2.2.2
  have e4 : ∀ k, zup (zup c 4 (c 3 1) v) 3 1 (c 3 1 + 1) 4 k = bup σ.2.2.2.1.2.1 σ.2.2.2.1.1 v k := fun k => by
    rw [zup_ne (by omega)]
    unfold bup
    rw [← e.1, ← e.2.1]
    by_cases q : k = c 3 1
    · rw [zup_eq ⟨rfl, q⟩, if_pos q]
    · rw [zup_ne (by omega), if_neg q]; rfl
  refine ⟨r, h.tp (fun b hb k => o b k (by omega) (by omega)) (t1.far1 (fun b k q => o b k (by omega) (by omega)) (by rw [e1]; omega) (by rw [o _ _ (by omega) (by omega)]; exact hP) (by rw [o _ _ (by omega) (by omega)]; exact hS)) (fun k k0 k1 => ?_) (by rw [e1, e.2.1]) (funext e4) (by rw [o _ _ (by omega) (by omega)]; exact e.2.2)⟩
  rw [e1] at k1
  rw [show (3 : Int) + 1 = 4 from rfl, e4]
  unfold bup
  rw [← e.2.1, ← e.1]
  by_cases q : k = c 3 1
  · rw [if_pos q]; have := hv.1; have := hv.2; omega
  · rw [if_neg q]; exact t2 k k0 (by omega)
end
