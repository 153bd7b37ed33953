/-! The constructor of the history. -/
/-- a history whose states are made one by one -/
def HI (c0 c : zC) (H j : Int) : Prop := (c H (-1) = 3 ∧ c H 0 = H + 1 ∧ LArr c (H + 1) 118 8 ∧ c H 1 = 0) ∧ (∀ i, 0 ≤ i → i < j → c (H + 1) i = H + 2 + 38 * i ∧ NT c (H + 2 + 38 * i)) ∧ (∀ b k, b ≠ 0 → b < H → c b k = c0 b k) ∧ c 0 0 = H + 2 + 38 * j ∧ c 0 1 = c0 0 1 + 8 + 289 * j
theorem HI.next {c0 c c3 : zC} {H j : Int} (h : HI c0 c H j) (hH : 0 < H) (h0 : 0 ≤ j) (x : NX c c3 (H + 2 + 38 * j) (H + 1) j 38 289) (hn : NT c3 (H + 2 + 38 * j)) : HI c0 c3 H (j + 1) := by
  obtain ⟨⟨h1, h2, ⟨a1, b1⟩, h3⟩, g, f, z, s⟩ := h
  have e : ∀ k, c3 H k = c H k := fun k => x.1 H k (by omega) (by omega) (by omega)
  refine ⟨⟨(e _).trans h1, (e _).trans h2, ⟨(x.1 _ _ (by omega) (by omega) (by omega)).trans a1, (x.1 _ _ (by omega) (by omega) (by omega)).trans b1⟩, (e _).trans h3⟩, fun i i0 i1 => ?_, fun b k b0 bl => (x.1 b k b0 (by omega) (by omega)).trans (f b k b0 bl), by rw [x.2.2.1]; omega, by rw [x.2.2.2, s]; omega⟩
  by_cases q : i = j
  · subst q; exact ⟨x.2.1, hn⟩
  · have g := g i i0 (by omega)
    exact ⟨(x.1 _ _ (by omega) (by omega) (Or.inr q)).trans g.1, g.2.same (fun b b0 b1 k => x.1 b k (by omega) (by omega) (by omega))⟩
theorem HI.ok {c0 c : zC} {H : Int} (h : HI c0 c H 8) (hH : 0 < H) : LHis c H ∧ c H 1 = 0 := by
  obtain ⟨⟨h1, h2, h3, h4⟩, g, -, -, -⟩ := h
  refine ⟨⟨hH, h1, h2, h3, fun j j0 j1 => ?_, fun i j i0 ij j1 => ?_, by omega, by omega⟩, h4⟩
  · have g := g j j0 j1
    rw [g.1]
    exact ⟨⟨by omega, by omega, by omega⟩, g.2.1⟩
  · rw [(g i i0 (by omega)).1, (g j (by omega) j1).1]; omega
theorem I_hi_l (d : Nat) {c0 : zC} {H : Int} (hH : 0 < H) : ∀ (t F j : Nat) (c : zC), t ≤ F → j + t = 8 → HI c0 c H j → ∃ c', zex zc_X2_init zk_X2_init (zrun zTab (d + 2)) (F + 1) 15 [(2, H), (0, (j : Int))] [] c = some (0, c') ∧ HI c0 c' H 8 := by
  intro t
  induction t with
  | zero =>
    intro F j c hF hj h
    obtain rfl : j = 8 := by omega
    obtain ⟨⟨h1, h2, ⟨a1, b1⟩, h3⟩, -⟩ := id h
    exact ⟨c, by rw [ze_X2_init_15, if_pos h1, h2, if_pos a1, b1, if_neg (by omega)], h⟩
  | succ t ih =>
    intro F j c hF hj h
    obtain ⟨F, rfl⟩ : ∃ G, F = G + 1 := ⟨F - 1, by omega⟩
    obtain ⟨⟨h1, h2, ⟨a1, b1⟩, h3⟩, -, -, z, -⟩ := id h
    obtain ⟨c2, r2, g2, n2⟩ := I_state d (c := znew c 9 7) (t := H + 2 + 38 * (j : Int)) (by rw [znw_0 (by omega), z]) (by omega) (znw_k z) (znw_v z (by decide)) (znw_v z (by decide))
    have g := g2.mk z (by omega)
    obtain ⟨x, y⟩ := NX_ok (R := H + 1) (j := (j : Int)) z g (by omega) (by omega)
    rw [ze_X2_init_15, if_pos h1, h2, if_pos a1, b1, if_pos (by omega), if_pos h1, if_pos (znw_k rfl), z, r2, zbnd_some, if_pos (by rw [g.2.2 _ _ (by omega) (by omega) (by omega), g.2.2 _ _ (by omega) (by omega) (by omega)]; exact ⟨a1, by omega, by omega⟩), if_pos n2.1.2.1, zw_id' (by omega) (by omega), show (j : Int) + 1 = ((j + 1 : Nat) : Int) by omega]
    refine ih F (j + 1) _ (by omega) (by omega) ?_
    rw [show ((j + 1 : Nat) : Int) = (j : Int) + 1 by omega]
    exact h.next hH (by omega) x (n2.same (fun b b0 b1 k => y b b0 k))
theorem I_his (d : Nat) {c : zC} {t : Int} (h0 : c 0 0 = t + 1) (ht : 0 < t) (hk : c t (-1) = 3) (h1 : c t 1 = 0) : ∃ c', zrun zTab (d + 3) 10 [t] c = some (0, c') ∧ zng c c' t 305 2320 ∧ LHis c' t ∧ c' t 1 = 0 := by
  obtain ⟨F, hF⟩ : ∃ F, 19999 = F + 30 := ⟨19969, rfl⟩
  rw [ze_X2_init, if_neg (by omega), if_pos (by rw [znw_o (by omega) (by omega)]; exact hk), h0, hF]
  have R1 := NR_ok (kd := 118) (n := 8) (f := 0) h0 ht (by omega)
  generalize zup (znew c 118 8) t 0 (t + 1) = c1 at R1 ⊢
  have k1 : c1 t (-1) = 3 := (R1.tt (by decide)).trans hk
  have H := NRs.ok ht _ c c1 (t + 1) (by omega) h0 (NRs.cons R1 (NRs.nil _ _ _)) (by simp [NRd])
  obtain ⟨H1, H2, H3⟩ := H
  have H1 : zng c c1 t 1 8 := H1
  obtain ⟨⟨⟨a1, b1⟩, z1, p1⟩, -⟩ := H3
  have v1 : c1 t 1 = 0 := (H2 1 (by simp)).trans h1
  rw [ze_X2_init_13]
  obtain ⟨c5, r5, i5⟩ := I_hi_l (c0 := c) d ht 8 (F + 28) 0 c1 (by omega) (by omega) ⟨⟨k1, p1, ⟨a1, b1⟩, v1⟩, fun q q0 q1 => by omega, fun b k b0 bl => H1.2.2 b k b0 (by omega) (by omega), by rw [H1.1, h0]; omega, by rw [H1.2.1]; omega⟩
  exact ⟨c5, r5, ⟨by rw [i5.2.2.2.1, h0]; omega, by rw [i5.2.2.2.2]; omega, fun b k b0 bt bl => i5.2.2.1 b k b0 (by omega)⟩, i5.ok ht⟩
