/-! The law's loop: in every round the class and the reference answer alike. -/
/-- one round's two calls answer alike -/
def LQ (c : zC) (r : zR) (f : zC → zR) : Prop := ∃ c1 c2 v σ', r = some (v, c1) ∧ f c1 = some (v, c2) ∧ RC c2 σ' ∧ RM c2 σ' ∧ (∀ k, c1 1 k = c 1 k) ∧ c1 681 (-1) = 12 ∧ ∀ b, b < 2 → ∀ k, c2 b k = c b k
def LR (K : zK) (c : zC) (i : Int) (r : zR) : Prop := ∃ c2 σ', r = K 18 [(2, 1), (2, 2), (2, 681), (0, i + 7)] [] c2 ∧ RC c2 σ' ∧ RM c2 σ' ∧ ∀ b, b < 2 → ∀ k, c2 b k = c b k
section
variable {c : zC} {σ : aS} {r : zR} {f : zC → zR} {v : Int} {R : aR}
theorem LQ.mk {c1 c2 : zC} {σ' : aS} (z : zfr c c1) (h1 : RC c1 σ') (m1 : RM c1 σ) (m2 : RM c2 σ') (l : zlo c1 c2) (e1 : r = some (v, c1)) (e2 : f c1 = some (v, c2)) : LQ c r f :=
  ⟨c1, c2, v, σ', e1, e2, h1.far (fun b _ b1 k => l b b1 k), m2, fun k => z 1 (by decide) k, m1.1.1, fun b hb k => (l b (by omega) k).trans (z b (Or.inl hb) k)⟩
theorem LQ.q (m : RM c σ) (g : GQ c σ r v) (k : ∀ c1, RM c1 σ → MAk c1 σ (f c1) v) : LQ c r f := by
  obtain ⟨c1, e1, h1, z⟩ := g
  have m1 : RM c1 σ := m.far (fun b hb k => z b (Or.inr hb) k)
  obtain ⟨c2, e2, m2, l⟩ := k c1 m1
  exact LQ.mk z h1 m1 m2 l e1 e2
theorem LQ.ch (m : RM c σ) (g : GC c r R) (k : ∀ c1, RM c1 σ → MC c1 (f c1) R) : LQ c r f := by
  obtain ⟨c1, e1, h1, z⟩ := g
  have m1 : RM c1 σ := m.far (fun b hb k => z b (Or.inr hb) k)
  obtain ⟨c2, e2, m2, l⟩ := k c1 m1
  exact LQ.mk z h1 m1 m2 l e1 e2
theorem GQ.of (h : RC c σ) (e : r = some (v, c)) : GQ c σ r v := ⟨c, e, h, zfr.rf c⟩
theorem MAk.of (h : RM c σ) (e : r = some (v, c)) : MAk c σ r v := ⟨c, e, h, zlo.rf c⟩
theorem MC.vk (g : MC c r R) : VOK R.2.1 := by
  obtain ⟨c', -, h, -⟩ := g
  exact h.v
end
section
variable {call : zCall} {K : zK} {c : zC} {i : Int}
theorem zb_0_ok (s : ∀ j, 1 ≤ j → j ≤ 6 → c 1 (-1) = 99 ∧ (0 : Int) ≤ zadd i j ∧ zadd i j < c 1 (-2)) (g : c 2 (-1) = 11) (hi : zw (i + 7) = i + 7) (lp : LQ c (call 99 [2, c 1 (zadd i 1), c 1 (zadd i 2), c 1 (zadd i 3), c 1 (zadd i 4), c 1 (zadd i 5), c 1 (zadd i 6)] c) (fun c1 => call 155 [681, c 1 (zadd i 1), c 1 (zadd i 2), c 1 (zadd i 3), c 1 (zadd i 4), c 1 (zadd i 5), c 1 (zadd i 6)] c1)) : LR K c i (zb_0 call K 1 2 681 i c) := by
  obtain ⟨c1, c2, v, σ', r1, r2, h1, h2, e1, e2, e3⟩ := lp
  have r2 : call 155 [681, c 1 (zadd i 1), c 1 (zadd i 2), c 1 (zadd i 3), c 1 (zadd i 4), c 1 (zadd i 5), c 1 (zadd i 6)] c1 = some (v, c2) := r2
  unfold zb_0
  rw [if_pos (s 1 (by decide) (by decide)), if_pos (s 2 (by decide) (by decide)), if_pos (s 3 (by decide) (by decide)), if_pos (s 4 (by decide) (by decide)), if_pos (s 5 (by decide) (by decide)), if_pos (s 6 (by decide) (by decide)), if_pos g, r1, zbnd_some]
  simp only [e1]
  rw [if_pos (s 1 (by decide) (by decide)), if_pos (s 2 (by decide) (by decide)), if_pos (s 3 (by decide) (by decide)), if_pos (s 4 (by decide) (by decide)), if_pos (s 5 (by decide) (by decide)), if_pos (s 6 (by decide) (by decide)), if_pos e2, r2, zbnd_some, if_pos rfl, hi]
  exact ⟨c2, σ', rfl, h1, h2, e3⟩
theorem zb_1_ok (s : ∀ j, 1 ≤ j → j ≤ 6 → c 1 (-1) = 99 ∧ (0 : Int) ≤ zadd i j ∧ zadd i j < c 1 (-2)) (g : c 2 (-1) = 11) (hi : zw (i + 7) = i + 7) (lp : LQ c (call 100 [2, c 1 (zadd i 1)] c) (fun c1 => call 167 [681, c 1 (zadd i 1)] c1)) : LR K c i (zb_1 call K 1 2 681 i c) := by
  obtain ⟨c1, c2, v, σ', r1, r2, h1, h2, e1, e2, e3⟩ := lp
  have r2 : call 167 [681, c 1 (zadd i 1)] c1 = some (v, c2) := r2
  unfold zb_1
  rw [if_pos (s 1 (by decide) (by decide)), if_pos g, r1, zbnd_some]
  simp only [e1]
  rw [if_pos (s 1 (by decide) (by decide)), if_pos e2, r2, zbnd_some, if_pos rfl, hi]
  exact ⟨c2, σ', rfl, h1, h2, e3⟩
theorem zb_2_ok (s : ∀ j, 1 ≤ j → j ≤ 6 → c 1 (-1) = 99 ∧ (0 : Int) ≤ zadd i j ∧ zadd i j < c 1 (-2)) (g : c 2 (-1) = 11) (hi : zw (i + 7) = i + 7) (lp : LQ c (call 101 [2] c) (fun c1 => call 168 [681] c1)) : LR K c i (zb_2 call K 1 2 681 i c) := by
  obtain ⟨c1, c2, v, σ', r1, r2, h1, h2, e1, e2, e3⟩ := lp
  have r2 : call 168 [681] c1 = some (v, c2) := r2
  unfold zb_2
  rw [if_pos g, r1, zbnd_some]
  rw [if_pos e2, r2, zbnd_some, if_pos rfl, hi]
  exact ⟨c2, σ', rfl, h1, h2, e3⟩
theorem zb_3_ok (s : ∀ j, 1 ≤ j → j ≤ 6 → c 1 (-1) = 99 ∧ (0 : Int) ≤ zadd i j ∧ zadd i j < c 1 (-2)) (g : c 2 (-1) = 11) (hi : zw (i + 7) = i + 7) (lp : LQ c (call 102 [2] c) (fun c1 => call 169 [681] c1)) : LR K c i (zb_3 call K 1 2 681 i c) := by
  obtain ⟨c1, c2, v, σ', r1, r2, h1, h2, e1, e2, e3⟩ := lp
  have r2 : call 169 [681] c1 = some (v, c2) := r2
  unfold zb_3
  rw [if_pos g, r1, zbnd_some]
  rw [if_pos e2, r2, zbnd_some, if_pos rfl, hi]
  exact ⟨c2, σ', rfl, h1, h2, e3⟩
theorem zb_4_ok (s : ∀ j, 1 ≤ j → j ≤ 6 → c 1 (-1) = 99 ∧ (0 : Int) ≤ zadd i j ∧ zadd i j < c 1 (-2)) (g : c 2 (-1) = 11) (hi : zw (i + 7) = i + 7) (lp : LQ c (call 103 [2, c 1 (zadd i 1)] c) (fun c1 => call 170 [681, c 1 (zadd i 1)] c1)) : LR K c i (zb_4 call K 1 2 681 i c) := by
  obtain ⟨c1, c2, v, σ', r1, r2, h1, h2, e1, e2, e3⟩ := lp
  have r2 : call 170 [681, c 1 (zadd i 1)] c1 = some (v, c2) := r2
  unfold zb_4
  rw [if_pos (s 1 (by decide) (by decide)), if_pos g, r1, zbnd_some]
  simp only [e1]
  rw [if_pos (s 1 (by decide) (by decide)), if_pos e2, r2, zbnd_some, if_pos rfl, hi]
  exact ⟨c2, σ', rfl, h1, h2, e3⟩
theorem zb_5_ok (s : ∀ j, 1 ≤ j → j ≤ 6 → c 1 (-1) = 99 ∧ (0 : Int) ≤ zadd i j ∧ zadd i j < c 1 (-2)) (g : c 2 (-1) = 11) (hi : zw (i + 7) = i + 7) (lp : LQ c (call 104 [2, c 1 (zadd i 1)] c) (fun c1 => call 171 [681, c 1 (zadd i 1)] c1)) : LR K c i (zb_5 call K 1 2 681 i c) := by
  obtain ⟨c1, c2, v, σ', r1, r2, h1, h2, e1, e2, e3⟩ := lp
  have r2 : call 171 [681, c 1 (zadd i 1)] c1 = some (v, c2) := r2
  unfold zb_5
  rw [if_pos (s 1 (by decide) (by decide)), if_pos g, r1, zbnd_some]
  simp only [e1]
  rw [if_pos (s 1 (by decide) (by decide)), if_pos e2, r2, zbnd_some, if_pos rfl, hi]
  exact ⟨c2, σ', rfl, h1, h2, e3⟩
theorem zb_6_ok (s : ∀ j, 1 ≤ j → j ≤ 6 → c 1 (-1) = 99 ∧ (0 : Int) ≤ zadd i j ∧ zadd i j < c 1 (-2)) (g : c 2 (-1) = 11) (hi : zw (i + 7) = i + 7) (lp : LQ c (call 105 [2, c 1 (zadd i 1), c 1 (zadd i 2)] c) (fun c1 => call 172 [681, c 1 (zadd i 1), c 1 (zadd i 2)] c1)) : LR K c i (zb_6 call K 1 2 681 i c) := by
  obtain ⟨c1, c2, v, σ', r1, r2, h1, h2, e1, e2, e3⟩ := lp
  have r2 : call 172 [681, c 1 (zadd i 1), c 1 (zadd i 2)] c1 = some (v, c2) := r2
  unfold zb_6
  rw [if_pos (s 1 (by decide) (by decide)), if_pos (s 2 (by decide) (by decide)), if_pos g, r1, zbnd_some]
  simp only [e1]
  rw [if_pos (s 1 (by decide) (by decide)), if_pos (s 2 (by decide) (by decide)), if_pos e2, r2, zbnd_some, if_pos rfl, hi]
  exact ⟨c2, σ', rfl, h1, h2, e3⟩
theorem zb_7_ok (s : ∀ j, 1 ≤ j → j ≤ 6 → c 1 (-1) = 99 ∧ (0 : Int) ≤ zadd i j ∧ zadd i j < c 1 (-2)) (g : c 2 (-1) = 11) (hi : zw (i + 7) = i + 7) (lp : LQ c (call 106 [2, c 1 (zadd i 1), c 1 (zadd i 2)] c) (fun c1 => call 173 [681, c 1 (zadd i 1), c 1 (zadd i 2)] c1)) : LR K c i (zb_7 call K 1 2 681 i c) := by
  obtain ⟨c1, c2, v, σ', r1, r2, h1, h2, e1, e2, e3⟩ := lp
  have r2 : call 173 [681, c 1 (zadd i 1), c 1 (zadd i 2)] c1 = some (v, c2) := r2
  unfold zb_7
  rw [if_pos (s 1 (by decide) (by decide)), if_pos (s 2 (by decide) (by decide)), if_pos g, r1, zbnd_some]
  simp only [e1]
  rw [if_pos (s 1 (by decide) (by decide)), if_pos (s 2 (by decide) (by decide)), if_pos e2, r2, zbnd_some, if_pos rfl, hi]
  exact ⟨c2, σ', rfl, h1, h2, e3⟩
theorem zb_8_ok (s : ∀ j, 1 ≤ j → j ≤ 6 → c 1 (-1) = 99 ∧ (0 : Int) ≤ zadd i j ∧ zadd i j < c 1 (-2)) (g : c 2 (-1) = 11) (hi : zw (i + 7) = i + 7) (lp : LQ c (call 107 [2, c 1 (zadd i 1), c 1 (zadd i 2)] c) (fun c1 => call 189 [681, c 1 (zadd i 1), c 1 (zadd i 2)] c1)) : LR K c i (zb_8 call K 1 2 681 i c) := by
  obtain ⟨c1, c2, v, σ', r1, r2, h1, h2, e1, e2, e3⟩ := lp
  have r2 : call 189 [681, c 1 (zadd i 1), c 1 (zadd i 2)] c1 = some (v, c2) := r2
  unfold zb_8
  rw [if_pos (s 1 (by decide) (by decide)), if_pos (s 2 (by decide) (by decide)), if_pos g, r1, zbnd_some]
  simp only [e1]
  rw [if_pos (s 1 (by decide) (by decide)), if_pos (s 2 (by decide) (by decide)), if_pos e2, r2, zbnd_some, if_pos rfl, hi]
  exact ⟨c2, σ', rfl, h1, h2, e3⟩
theorem zb_9_ok (s : ∀ j, 1 ≤ j → j ≤ 6 → c 1 (-1) = 99 ∧ (0 : Int) ≤ zadd i j ∧ zadd i j < c 1 (-2)) (g : c 2 (-1) = 11) (hi : zw (i + 7) = i + 7) (lp : LQ c (call 108 [2, c 1 (zadd i 1), c 1 (zadd i 2)] c) (fun c1 => call 190 [681, c 1 (zadd i 1), c 1 (zadd i 2)] c1)) : LR K c i (zb_9 call K 1 2 681 i c) := by
  obtain ⟨c1, c2, v, σ', r1, r2, h1, h2, e1, e2, e3⟩ := lp
  have r2 : call 190 [681, c 1 (zadd i 1), c 1 (zadd i 2)] c1 = some (v, c2) := r2
  unfold zb_9
  rw [if_pos (s 1 (by decide) (by decide)), if_pos (s 2 (by decide) (by decide)), if_pos g, r1, zbnd_some]
  simp only [e1]
  rw [if_pos (s 1 (by decide) (by decide)), if_pos (s 2 (by decide) (by decide)), if_pos e2, r2, zbnd_some, if_pos rfl, hi]
  exact ⟨c2, σ', rfl, h1, h2, e3⟩
theorem zb_10_ok (s : ∀ j, 1 ≤ j → j ≤ 6 → c 1 (-1) = 99 ∧ (0 : Int) ≤ zadd i j ∧ zadd i j < c 1 (-2)) (g : c 2 (-1) = 11) (hi : zw (i + 7) = i + 7) (lp : LQ c (call 109 [2, c 1 (zadd i 1), c 1 (zadd i 2)] c) (fun c1 => call 191 [681, c 1 (zadd i 1), c 1 (zadd i 2)] c1)) : LR K c i (zb_10 call K 1 2 681 i c) := by
  obtain ⟨c1, c2, v, σ', r1, r2, h1, h2, e1, e2, e3⟩ := lp
  have r2 : call 191 [681, c 1 (zadd i 1), c 1 (zadd i 2)] c1 = some (v, c2) := r2
  unfold zb_10
  rw [if_pos (s 1 (by decide) (by decide)), if_pos (s 2 (by decide) (by decide)), if_pos g, r1, zbnd_some]
  simp only [e1]
  rw [if_pos (s 1 (by decide) (by decide)), if_pos (s 2 (by decide) (by decide)), if_pos e2, r2, zbnd_some, if_pos rfl, hi]
  exact ⟨c2, σ', rfl, h1, h2, e3⟩
theorem zb_11_ok (s : ∀ j, 1 ≤ j → j ≤ 6 → c 1 (-1) = 99 ∧ (0 : Int) ≤ zadd i j ∧ zadd i j < c 1 (-2)) (g : c 2 (-1) = 11) (hi : zw (i + 7) = i + 7) (lp : LQ c (call 110 [2, c 1 (zadd i 1)] c) (fun c1 => call 192 [681, c 1 (zadd i 1)] c1)) : LR K c i (zb_11 call K 1 2 681 i c) := by
  obtain ⟨c1, c2, v, σ', r1, r2, h1, h2, e1, e2, e3⟩ := lp
  have r2 : call 192 [681, c 1 (zadd i 1)] c1 = some (v, c2) := r2
  unfold zb_11
  rw [if_pos (s 1 (by decide) (by decide)), if_pos g, r1, zbnd_some]
  simp only [e1]
  rw [if_pos (s 1 (by decide) (by decide)), if_pos e2, r2, zbnd_some, if_pos rfl, hi]
  exact ⟨c2, σ', rfl, h1, h2, e3⟩
theorem zb_12_ok (s : ∀ j, 1 ≤ j → j ≤ 6 → c 1 (-1) = 99 ∧ (0 : Int) ≤ zadd i j ∧ zadd i j < c 1 (-2)) (g : c 2 (-1) = 11) (hi : zw (i + 7) = i + 7) (lp : LQ c (call 111 [2] c) (fun c1 => call 193 [681] c1)) : LR K c i (zb_12 call K 1 2 681 i c) := by
  obtain ⟨c1, c2, v, σ', r1, r2, h1, h2, e1, e2, e3⟩ := lp
  have r2 : call 193 [681] c1 = some (v, c2) := r2
  unfold zb_12
  rw [if_pos g, r1, zbnd_some]
  rw [if_pos e2, r2, zbnd_some, if_pos rfl, hi]
  exact ⟨c2, σ', rfl, h1, h2, e3⟩
theorem zb_13_ok (s : ∀ j, 1 ≤ j → j ≤ 6 → c 1 (-1) = 99 ∧ (0 : Int) ≤ zadd i j ∧ zadd i j < c 1 (-2)) (g : c 2 (-1) = 11) (hi : zw (i + 7) = i + 7) (lp : LQ c (call 112 [2, c 1 (zadd i 1), c 1 (zadd i 2), c 1 (zadd i 3)] c) (fun c1 => call 194 [681, c 1 (zadd i 1), c 1 (zadd i 2), c 1 (zadd i 3)] c1)) : LR K c i (zb_13 call K 1 2 681 i c) := by
  obtain ⟨c1, c2, v, σ', r1, r2, h1, h2, e1, e2, e3⟩ := lp
  have r2 : call 194 [681, c 1 (zadd i 1), c 1 (zadd i 2), c 1 (zadd i 3)] c1 = some (v, c2) := r2
  unfold zb_13
  rw [if_pos (s 1 (by decide) (by decide)), if_pos (s 2 (by decide) (by decide)), if_pos (s 3 (by decide) (by decide)), if_pos g, r1, zbnd_some]
  simp only [e1]
  rw [if_pos (s 1 (by decide) (by decide)), if_pos (s 2 (by decide) (by decide)), if_pos (s 3 (by decide) (by decide)), if_pos e2, r2, zbnd_some, if_pos rfl, hi]
  exact ⟨c2, σ', rfl, h1, h2, e3⟩
theorem zb_14_ok (s : ∀ j, 1 ≤ j → j ≤ 6 → c 1 (-1) = 99 ∧ (0 : Int) ≤ zadd i j ∧ zadd i j < c 1 (-2)) (g : c 2 (-1) = 11) (hi : zw (i + 7) = i + 7) (lp : LQ c (call 113 [2, c 1 (zadd i 1), c 1 (zadd i 2), c 1 (zadd i 3)] c) (fun c1 => call 195 [681, c 1 (zadd i 1), c 1 (zadd i 2), c 1 (zadd i 3)] c1)) : LR K c i (zb_14 call K 1 2 681 i c) := by
  obtain ⟨c1, c2, v, σ', r1, r2, h1, h2, e1, e2, e3⟩ := lp
  have r2 : call 195 [681, c 1 (zadd i 1), c 1 (zadd i 2), c 1 (zadd i 3)] c1 = some (v, c2) := r2
  unfold zb_14
  rw [if_pos (s 1 (by decide) (by decide)), if_pos (s 2 (by decide) (by decide)), if_pos (s 3 (by decide) (by decide)), if_pos g, r1, zbnd_some]
  simp only [e1]
  rw [if_pos (s 1 (by decide) (by decide)), if_pos (s 2 (by decide) (by decide)), if_pos (s 3 (by decide) (by decide)), if_pos e2, r2, zbnd_some, if_pos rfl, hi]
  exact ⟨c2, σ', rfl, h1, h2, e3⟩
theorem zb_15_ok (s : ∀ j, 1 ≤ j → j ≤ 6 → c 1 (-1) = 99 ∧ (0 : Int) ≤ zadd i j ∧ zadd i j < c 1 (-2)) (g : c 2 (-1) = 11) (hi : zw (i + 7) = i + 7) (lp : LQ c (call 114 [2, c 1 (zadd i 1), c 1 (zadd i 2), c 1 (zadd i 3), c 1 (zadd i 4)] c) (fun c1 => call 196 [681, c 1 (zadd i 1), c 1 (zadd i 2), c 1 (zadd i 3), c 1 (zadd i 4)] c1)) : LR K c i (zb_15 call K 1 2 681 i c) := by
  obtain ⟨c1, c2, v, σ', r1, r2, h1, h2, e1, e2, e3⟩ := lp
  have r2 : call 196 [681, c 1 (zadd i 1), c 1 (zadd i 2), c 1 (zadd i 3), c 1 (zadd i 4)] c1 = some (v, c2) := r2
  unfold zb_15
  rw [if_pos (s 1 (by decide) (by decide)), if_pos (s 2 (by decide) (by decide)), if_pos (s 3 (by decide) (by decide)), if_pos (s 4 (by decide) (by decide)), if_pos g, r1, zbnd_some]
  simp only [e1]
  rw [if_pos (s 1 (by decide) (by decide)), if_pos (s 2 (by decide) (by decide)), if_pos (s 3 (by decide) (by decide)), if_pos (s 4 (by decide) (by decide)), if_pos e2, r2, zbnd_some, if_pos rfl, hi]
  exact ⟨c2, σ', rfl, h1, h2, e3⟩
theorem zb_16_ok (s : ∀ j, 1 ≤ j → j ≤ 6 → c 1 (-1) = 99 ∧ (0 : Int) ≤ zadd i j ∧ zadd i j < c 1 (-2)) (g : c 2 (-1) = 11) (hi : zw (i + 7) = i + 7) (lp : LQ c (call 115 [2, c 1 (zadd i 1), c 1 (zadd i 2)] c) (fun c1 => call 197 [681, c 1 (zadd i 1), c 1 (zadd i 2)] c1)) : LR K c i (zb_16 call K 1 2 681 i c) := by
  obtain ⟨c1, c2, v, σ', r1, r2, h1, h2, e1, e2, e3⟩ := lp
  have r2 : call 197 [681, c 1 (zadd i 1), c 1 (zadd i 2)] c1 = some (v, c2) := r2
  unfold zb_16
  rw [if_pos (s 1 (by decide) (by decide)), if_pos (s 2 (by decide) (by decide)), if_pos g, r1, zbnd_some]
  simp only [e1]
  rw [if_pos (s 1 (by decide) (by decide)), if_pos (s 2 (by decide) (by decide)), if_pos e2, r2, zbnd_some, if_pos rfl, hi]
  exact ⟨c2, σ', rfl, h1, h2, e3⟩
theorem zb_17_ok (s : ∀ j, 1 ≤ j → j ≤ 6 → c 1 (-1) = 99 ∧ (0 : Int) ≤ zadd i j ∧ zadd i j < c 1 (-2)) (g : c 2 (-1) = 11) (hi : zw (i + 7) = i + 7) (lp : LQ c (call 116 [2, c 1 (zadd i 1), c 1 (zadd i 2)] c) (fun c1 => call 199 [681, c 1 (zadd i 1), c 1 (zadd i 2)] c1)) : LR K c i (zb_17 call K 1 2 681 i c) := by
  obtain ⟨c1, c2, v, σ', r1, r2, h1, h2, e1, e2, e3⟩ := lp
  have r2 : call 199 [681, c 1 (zadd i 1), c 1 (zadd i 2)] c1 = some (v, c2) := r2
  unfold zb_17
  rw [if_pos (s 1 (by decide) (by decide)), if_pos (s 2 (by decide) (by decide)), if_pos g, r1, zbnd_some]
  simp only [e1]
  rw [if_pos (s 1 (by decide) (by decide)), if_pos (s 2 (by decide) (by decide)), if_pos e2, r2, zbnd_some, if_pos rfl, hi]
  exact ⟨c2, σ', rfl, h1, h2, e3⟩
theorem zb_18_ok (s : ∀ j, 1 ≤ j → j ≤ 6 → c 1 (-1) = 99 ∧ (0 : Int) ≤ zadd i j ∧ zadd i j < c 1 (-2)) (g : c 2 (-1) = 11) (hi : zw (i + 7) = i + 7) (lp : LQ c (call 117 [2, c 1 (zadd i 1), c 1 (zadd i 2)] c) (fun c1 => call 201 [681, c 1 (zadd i 1), c 1 (zadd i 2)] c1)) : LR K c i (zb_18 call K 1 2 681 i c) := by
  obtain ⟨c1, c2, v, σ', r1, r2, h1, h2, e1, e2, e3⟩ := lp
  have r2 : call 201 [681, c 1 (zadd i 1), c 1 (zadd i 2)] c1 = some (v, c2) := r2
  unfold zb_18
  rw [if_pos (s 1 (by decide) (by decide)), if_pos (s 2 (by decide) (by decide)), if_pos g, r1, zbnd_some]
  simp only [e1]
  rw [if_pos (s 1 (by decide) (by decide)), if_pos (s 2 (by decide) (by decide)), if_pos e2, r2, zbnd_some, if_pos rfl, hi]
  exact ⟨c2, σ', rfl, h1, h2, e3⟩
theorem zb_19_ok (s : ∀ j, 1 ≤ j → j ≤ 6 → c 1 (-1) = 99 ∧ (0 : Int) ≤ zadd i j ∧ zadd i j < c 1 (-2)) (g : c 2 (-1) = 11) (hi : zw (i + 7) = i + 7) (lp : LQ c (call 118 [2, c 1 (zadd i 1), c 1 (zadd i 2)] c) (fun c1 => call 202 [681, c 1 (zadd i 1), c 1 (zadd i 2)] c1)) : LR K c i (zb_19 call K 1 2 681 i c) := by
  obtain ⟨c1, c2, v, σ', r1, r2, h1, h2, e1, e2, e3⟩ := lp
  have r2 : call 202 [681, c 1 (zadd i 1), c 1 (zadd i 2)] c1 = some (v, c2) := r2
  unfold zb_19
  rw [if_pos (s 1 (by decide) (by decide)), if_pos (s 2 (by decide) (by decide)), if_pos g, r1, zbnd_some]
  simp only [e1]
  rw [if_pos (s 1 (by decide) (by decide)), if_pos (s 2 (by decide) (by decide)), if_pos e2, r2, zbnd_some, if_pos rfl, hi]
  exact ⟨c2, σ', rfl, h1, h2, e3⟩
theorem zb_20_ok (s : ∀ j, 1 ≤ j → j ≤ 6 → c 1 (-1) = 99 ∧ (0 : Int) ≤ zadd i j ∧ zadd i j < c 1 (-2)) (g : c 2 (-1) = 11) (hi : zw (i + 7) = i + 7) (lp : LQ c (call 119 [2, c 1 (zadd i 1)] c) (fun c1 => call 203 [681, c 1 (zadd i 1)] c1)) : LR K c i (zb_20 call K 1 2 681 i c) := by
  obtain ⟨c1, c2, v, σ', r1, r2, h1, h2, e1, e2, e3⟩ := lp
  have r2 : call 203 [681, c 1 (zadd i 1)] c1 = some (v, c2) := r2
  unfold zb_20
  rw [if_pos (s 1 (by decide) (by decide)), if_pos g, r1, zbnd_some]
  simp only [e1]
  rw [if_pos (s 1 (by decide) (by decide)), if_pos e2, r2, zbnd_some, if_pos rfl, hi]
  exact ⟨c2, σ', rfl, h1, h2, e3⟩
theorem zb_21_ok (s : ∀ j, 1 ≤ j → j ≤ 6 → c 1 (-1) = 99 ∧ (0 : Int) ≤ zadd i j ∧ zadd i j < c 1 (-2)) (g : c 2 (-1) = 11) (hi : zw (i + 7) = i + 7) (lp : LQ c (call 120 [2] c) (fun c1 => call 204 [681] c1)) : LR K c i (zb_21 call K 1 2 681 i c) := by
  obtain ⟨c1, c2, v, σ', r1, r2, h1, h2, e1, e2, e3⟩ := lp
  have r2 : call 204 [681] c1 = some (v, c2) := r2
  unfold zb_21
  rw [if_pos g, r1, zbnd_some]
  rw [if_pos e2, r2, zbnd_some, if_pos rfl, hi]
  exact ⟨c2, σ', rfl, h1, h2, e3⟩
theorem zb_22_ok (s : ∀ j, 1 ≤ j → j ≤ 6 → c 1 (-1) = 99 ∧ (0 : Int) ≤ zadd i j ∧ zadd i j < c 1 (-2)) (g : c 2 (-1) = 11) (hi : zw (i + 7) = i + 7) (lp : LQ c (call 121 [2] c) (fun c1 => call 205 [681] c1)) : LR K c i (zb_22 call K 1 2 681 i c) := by
  obtain ⟨c1, c2, v, σ', r1, r2, h1, h2, e1, e2, e3⟩ := lp
  have r2 : call 205 [681] c1 = some (v, c2) := r2
  unfold zb_22
  rw [if_pos g, r1, zbnd_some]
  rw [if_pos e2, r2, zbnd_some, if_pos rfl, hi]
  exact ⟨c2, σ', rfl, h1, h2, e3⟩
theorem zb_23_ok (s : ∀ j, 1 ≤ j → j ≤ 6 → c 1 (-1) = 99 ∧ (0 : Int) ≤ zadd i j ∧ zadd i j < c 1 (-2)) (g : c 2 (-1) = 11) (hi : zw (i + 7) = i + 7) (lp : LQ c (call 122 [2] c) (fun c1 => call 206 [681] c1)) : LR K c i (zb_23 call K 1 2 681 i c) := by
  obtain ⟨c1, c2, v, σ', r1, r2, h1, h2, e1, e2, e3⟩ := lp
  have r2 : call 206 [681] c1 = some (v, c2) := r2
  unfold zb_23
  rw [if_pos g, r1, zbnd_some]
  rw [if_pos e2, r2, zbnd_some, if_pos rfl, hi]
  exact ⟨c2, σ', rfl, h1, h2, e3⟩
theorem zb_24_ok (s : ∀ j, 1 ≤ j → j ≤ 6 → c 1 (-1) = 99 ∧ (0 : Int) ≤ zadd i j ∧ zadd i j < c 1 (-2)) (g : c 2 (-1) = 11) (hi : zw (i + 7) = i + 7) (lp : LQ c (call 123 [2, c 1 (zadd i 1)] c) (fun c1 => call 207 [681, c 1 (zadd i 1)] c1)) : LR K c i (zb_24 call K 1 2 681 i c) := by
  obtain ⟨c1, c2, v, σ', r1, r2, h1, h2, e1, e2, e3⟩ := lp
  have r2 : call 207 [681, c 1 (zadd i 1)] c1 = some (v, c2) := r2
  unfold zb_24
  rw [if_pos (s 1 (by decide) (by decide)), if_pos g, r1, zbnd_some]
  simp only [e1]
  rw [if_pos (s 1 (by decide) (by decide)), if_pos e2, r2, zbnd_some, if_pos rfl, hi]
  exact ⟨c2, σ', rfl, h1, h2, e3⟩
end
