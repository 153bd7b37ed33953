/-! The constructors of the class's parts. -/
def NP (c : zC) (P : Int) : Prop := LPage c P ∧ c P 2 = 0 ∧ c P 3 = 20
def NS (c : zC) (Q : Int) : Prop := LSense c Q ∧ c Q 2 = 0
theorem NP.same {c c' : zC} {P : Int} (h : NP c P) (g : ∀ b, P ≤ b → b < P + 3 → ∀ k, c' b k = c b k) : NP c' P := by
  unfold NP LPage LArr at h ⊢
  rw [funext (g P (by omega) (by omega)), funext (g (P + 1) (by omega) (by omega)), funext (g (P + 2) (by omega) (by omega))]
  exact h
theorem NS.same {c c' : zC} {Q : Int} (h : NS c Q) (g : ∀ b, Q ≤ b → b < Q + 2 → ∀ k, c' b k = c b k) : NS c' Q := by
  unfold NS LSense LArr at h ⊢
  rw [funext (g Q (by omega) (by omega)), funext (g (Q + 1) (by omega) (by omega))]
  exact h

theorem I_page (d : Nat) {c : zC} {t : Int} (h0 : c 0 0 = t + 1) (ht : 0 < t) (hk : c t (-1) = 5) (h2 : c t 2 = 0) : ∃ c', zrun zTab (d + 1) 41 [t] c = some (0, c') ∧ zng c c' t 2 40 ∧ NP c' t := by
  obtain ⟨F, hF⟩ : ∃ F, 19999 = F + 30 := ⟨19969, rfl⟩
  rw [ze_X4_init, if_neg (by omega), if_pos (by rw [znw_o (by omega) (by omega)]; exact hk), h0, hF]
  have R1 := NR_ok (kd := 101) (n := 20) (f := 0) h0 ht (by omega)
  generalize zup (znew c 101 20) t 0 (t + 1) = c1 at R1 ⊢
  have k1 : c1 t (-1) = 5 := (R1.tt (by decide)).trans hk
  rw [ze_X4_init_12, if_pos ((R1.kk ht (by omega) (by decide)).trans hk), R1.z]
  have R2 := NR_ok (kd := 100) (n := 20) (f := 1) R1.z ht (by omega)
  generalize zup (znew c1 100 20) t 1 (t + 1 + 1) = c2 at R2 ⊢
  have k2 : c2 t (-1) = 5 := (R2.tt (by decide)).trans k1
  have H := NRs.ok ht _ c c2 (t + 1) (by omega) h0 (NRs.cons R1 (NRs.cons R2 (NRs.nil _ _ _))) (by simp [NRd])
  obtain ⟨H1, H2, H3⟩ := H
  have H1 : zng c c2 t 2 40 := H1
  obtain ⟨⟨⟨a1, b1⟩, z1, p1⟩, ⟨⟨⟨a2, b2⟩, z2, p2⟩, -⟩⟩ := H3
  have v2 : c2 t 2 = 0 := (H2 2 (by simp)).trans h2
  rw [ze_X4_init_20, if_pos k2, ze_X4_init_26]
  refine ⟨_, rfl, H1.up (by omega) (Or.inl rfl), ?_⟩
  unfold NP LPage LArr
  rw [show t + 1 + 1 = t + 2 by omega] at a2 b2 p2
  refine ⟨⟨?_, ?_, ?_, ⟨?_, ?_⟩, ⟨?_, ?_⟩, ?_, ?_⟩, ?_, zup_eq ⟨rfl, rfl⟩⟩ <;> rw [zup_ne (by omega)] <;> first | assumption | omega
theorem I_sense (d : Nat) {c : zC} {t : Int} (h0 : c 0 0 = t + 1) (ht : 0 < t) (hk : c t (-1) = 8) (h2 : c t 2 = 0) : ∃ c', zrun zTab (d + 1) 62 [t] c = some (0, c') ∧ zng c c' t 1 4 ∧ NS c' t := by
  obtain ⟨F, hF⟩ : ∃ F, 19999 = F + 30 := ⟨19969, rfl⟩
  rw [ze_X7_init, if_neg (by omega), if_pos (by rw [znw_o (by omega) (by omega)]; exact hk), h0, hF]
  have R1 := NR_ok (kd := 101) (n := 4) (f := 1) h0 ht (by omega)
  generalize zup (znew c 101 4) t 1 (t + 1) = c1 at R1 ⊢
  have k1 : c1 t (-1) = 8 := (R1.tt (by decide)).trans hk
  have H := NRs.ok ht _ c c1 (t + 1) (by omega) h0 (NRs.cons R1 (NRs.nil _ _ _)) (by simp [NRd])
  obtain ⟨H1, H2, H3⟩ := H
  have H1 : zng c c1 t 1 4 := H1
  obtain ⟨⟨⟨a1, b1⟩, z1, p1⟩, -⟩ := H3
  have v2 : c1 t 2 = 0 := (H2 2 (by simp)).trans h2
  rw [ze_X7_init_11, if_pos k1, ze_X7_init_17]
  refine ⟨_, rfl, H1.up (by omega) (Or.inl rfl), ?_⟩
  unfold NS LSense LArr
  refine ⟨⟨?_, ?_, ⟨?_, ?_⟩, ?_, ?_⟩, ?_⟩ <;> rw [zup_ne (by omega)] <;> first | assumption | omega
theorem I_rule (d : Nat) {c : zC} {t : Int} (ht : 0 < t) : zrun zTab (d + 1) 58 [t] c = some (0, c) := by
  rw [ze_X6_init, if_neg (by omega)]
theorem I_pass (d : Nat) {c : zC} {t : Int} (ht : 0 < t) : zrun zTab (d + 1) 53 [t] c = some (0, c) := by
  rw [ze_X5_init, if_neg (by omega)]
theorem I_bases (d : Nat) {c : zC} {t : Int} (h0 : c 0 0 = t + 1) (ht : 0 < t) (hk : c t (-1) = 1) : ∃ c', zrun zTab (d + 1) 0 [t] c = some (0, c') ∧ zng c c' t 2 86 ∧ BShape c' t := by
  obtain ⟨F, hF⟩ : ∃ F, 19999 = F + 30 := ⟨19969, rfl⟩
  rw [ze_X0_init, if_neg (by omega), if_pos (by rw [znw_o (by omega) (by omega)]; exact hk), h0, hF]
  have R1 := NR_ok (kd := 101) (n := 43) (f := 0) h0 ht (by omega)
  generalize zup (znew c 101 43) t 0 (t + 1) = c1 at R1 ⊢
  have k1 : c1 t (-1) = 1 := (R1.tt (by decide)).trans hk
  rw [ze_X0_init_12, if_pos ((R1.kk ht (by omega) (by decide)).trans hk), R1.z]
  have R2 := NR_ok (kd := 100) (n := 43) (f := 1) R1.z ht (by omega)
  generalize zup (znew c1 100 43) t 1 (t + 1 + 1) = c2 at R2 ⊢
  have k2 : c2 t (-1) = 1 := (R2.tt (by decide)).trans k1
  have H := NRs.ok ht _ c c2 (t + 1) (by omega) h0 (NRs.cons R1 (NRs.cons R2 (NRs.nil _ _ _))) (by simp [NRd])
  obtain ⟨H1, H2, H3⟩ := H
  have H1 : zng c c2 t 2 86 := H1
  obtain ⟨⟨⟨a1, b1⟩, z1, p1⟩, ⟨⟨⟨a2, b2⟩, z2, p2⟩, -⟩⟩ := H3
  rw [ze_X0_init_20]
  refine ⟨_, rfl, H1, ?_⟩
  rw [show t + 1 + 1 = t + 2 by omega] at a2 b2 p2
  exact ⟨k2, p1, p2, ⟨a1, b1⟩, ⟨a2, b2⟩⟩
theorem I_edit (d : Nat) {c : zC} {t : Int} (h0 : c 0 0 = t + 1) (ht : 0 < t) (hk : c t (-1) = 2) : ∃ c', zrun zTab (d + 1) 6 [t] c = some (0, c') ∧ zng c c' t 2 40 ∧ LEd c' t ∧ c' t 2 = -5 ∧ c' t 3 = -5 ∧ c' t 4 = -5 := by
  obtain ⟨F, hF⟩ : ∃ F, 19999 = F + 30 := ⟨19969, rfl⟩
  rw [ze_X1_init, if_neg (by omega), if_pos (by rw [znw_o (by omega) (by omega)]; exact hk), h0, hF]
  have R1 := NR_ok (kd := 100) (n := 20) (f := 0) h0 ht (by omega)
  generalize zup (znew c 100 20) t 0 (t + 1) = c1 at R1 ⊢
  have k1 : c1 t (-1) = 2 := (R1.tt (by decide)).trans hk
  rw [ze_X1_init_12, if_pos ((R1.kk ht (by omega) (by decide)).trans hk), R1.z]
  have R2 := NR_ok (kd := 100) (n := 20) (f := 1) R1.z ht (by omega)
  generalize zup (znew c1 100 20) t 1 (t + 1 + 1) = c2 at R2 ⊢
  have k2 : c2 t (-1) = 2 := (R2.tt (by decide)).trans k1
  have H := NRs.ok ht _ c c2 (t + 1) (by omega) h0 (NRs.cons R1 (NRs.cons R2 (NRs.nil _ _ _))) (by simp [NRd])
  obtain ⟨H1, H2, H3⟩ := H
  have H1 : zng c c2 t 2 40 := H1
  obtain ⟨⟨⟨a1, b1⟩, z1, p1⟩, ⟨⟨⟨a2, b2⟩, z2, p2⟩, -⟩⟩ := H3
  rw [show t + 1 + 1 = t + 2 by omega] at a2 b2 p2
  have q3 : (zup c2 t 2 (-5)) t (-1) = 2 := (zup_ne (by omega)).trans k2
  have q4 : (zup (zup c2 t 2 (-5)) t 3 (-5)) t (-1) = 2 := (zup_ne (by omega)).trans q3
  rw [ze_X1_init_20, if_pos k2, ze_X1_init_26, if_pos q3, ze_X1_init_32, if_pos q4, ze_X1_init_38]
  refine ⟨_, rfl, ((H1.up (by omega) (Or.inl rfl)).up (by omega) (Or.inl rfl)).up (by omega) (Or.inl rfl), ?_, ?_, ?_, zup_eq ⟨rfl, rfl⟩⟩
  · unfold LEd LArr
    refine ⟨ht, ?_, ?_, ?_, ⟨?_, ?_⟩, ⟨?_, ?_⟩⟩ <;> rw [zup_ne (by omega), zup_ne (by omega), zup_ne (by omega)] <;> assumption
  · rw [zup_ne (by omega), zup_ne (by omega), zup_eq ⟨rfl, rfl⟩]
  · rw [zup_ne (by omega), zup_eq ⟨rfl, rfl⟩]
theorem I_tape (d : Nat) {c : zC} {t : Int} (h0 : c 0 0 = t + 1) (ht : 0 < t) (hk : c t (-1) = 10) (h1 : c t 1 = 0) : ∃ c', zrun zTab (d + 2) 76 [t] c = some (0, c') ∧ zng c c' t 7 136 ∧ LTp c' t ∧ c' t 1 = 0 ∧ c' t 4 = -5 := by
  obtain ⟨F, hF⟩ : ∃ F, 19999 = F + 30 := ⟨19969, rfl⟩
  rw [ze_X9_init, if_neg (by omega), if_pos (by rw [znw_o (by omega) (by omega)]; exact hk), h0, hF]
  have R1 := NR_ok (kd := 100) (n := 80) (f := 0) h0 ht (by omega)
  generalize zup (znew c 100 80) t 0 (t + 1) = c1 at R1 ⊢
  have k1 : c1 t (-1) = 10 := (R1.tt (by decide)).trans hk
  have H := NRs.ok ht _ c c1 (t + 1) (by omega) h0 (NRs.cons R1 (NRs.nil _ _ _)) (by simp [NRd])
  obtain ⟨H1, H2, H3⟩ := H
  have H1 : zng c c1 t 1 80 := H1
  obtain ⟨⟨⟨a1, b1⟩, z1, p1⟩, -⟩ := H3
  have v1 : c1 t 1 = 0 := (H2 1 (by simp)).trans h1
  have q3 : (zup c1 t 3 (-1)) t (-1) = 10 := (zup_ne (by omega)).trans k1
  rw [ze_X9_init_12, if_pos k1, ze_X9_init_17, if_pos q3]
  have G2 : zng c (zup (zup c1 t 3 (-1)) t 4 (-5)) t 1 80 := (H1.up (by omega) (Or.inl rfl)).up (by omega) (Or.inl rfl)
  have f2 : ∀ k, k ≠ 3 → k ≠ 4 → (zup (zup c1 t 3 (-1)) t 4 (-5)) t k = c1 t k := fun k e3 e4 => by rw [zup_ne (Or.inr e4), zup_ne (Or.inr e3)]
  have g2 : ∀ b k, b ≠ t → (zup (zup c1 t 3 (-1)) t 4 (-5)) b k = c1 b k := fun b k hb => by rw [zup_ne (Or.inl hb), zup_ne (Or.inl hb)]
  have f4 : (zup (zup c1 t 3 (-1)) t 4 (-5)) t 4 = -5 := zup_eq ⟨rfl, rfl⟩
  generalize zup (zup c1 t 3 (-1)) t 4 (-5) = c2 at G2 f2 g2 f4 ⊢
  have z2 : c2 0 0 = t + 2 := by rw [G2.1, h0]; omega
  rw [ze_X9_init_23, if_pos (znw_k rfl), z2]
  obtain ⟨c3, r3, G3, N3⟩ := I_page d (c := znew c2 5 4) (t := t + 2) (by rw [znw_0 (by omega), z2]) (by omega) (znw_k z2) (znw_v z2 (by decide))
  rw [r3, zbnd_some]
  have n3 : zng c2 c3 (t + 2) 3 44 := ((zng.rf c2 (t + 2)).new (kd := 5) (s := 4) (by omega) (by decide)).tr G3 (Or.inl rfl) (by decide)
  have o3 : ∀ b k, b ≠ 0 → b < t + 2 → c3 b k = c2 b k := fun b k b0 bl => n3.2.2 b k b0 (by omega) (by omega)
  rw [if_pos (by rw [o3 t _ (by omega) (by omega), f2 _ (by decide) (by decide)]; exact k1)]
  have z3 : c3 0 0 = t + 5 := by rw [n3.1, z2]; omega
  have w3 : ∀ b k, b ≠ t → (zup c3 t 5 (t + 2)) b k = c3 b k := fun b k hb => zup_ne (Or.inl hb)
  have y3 : ∀ k, k ≠ 5 → (zup c3 t 5 (t + 2)) t k = c3 t k := fun k hk => zup_ne (Or.inr hk)
  have x3 : (zup c3 t 5 (t + 2)) t 5 = t + 2 := zup_eq ⟨rfl, rfl⟩
  generalize zup c3 t 5 (t + 2) = c4 at w3 y3 x3 ⊢
  have z4 : c4 0 0 = t + 5 := by rw [w3 0 0 (by omega), z3]
  rw [ze_X9_init_34, if_pos (znw_k rfl), z4]
  obtain ⟨c5, r5, G5, N5⟩ := I_sense d (c := znew c4 8 4) (t := t + 5) (by rw [znw_0 (by omega), z4]) (by omega) (znw_k z4) (znw_v z4 (by decide))
  rw [r5, zbnd_some]
  have n5 : zng c4 c5 (t + 5) 2 8 := ((zng.rf c4 (t + 5)).new (kd := 8) (s := 4) (by omega) (by decide)).tr G5 (Or.inl rfl) (by decide)
  have o5 : ∀ b k, b ≠ 0 → b < t + 5 → c5 b k = c4 b k := fun b k b0 bl => n5.2.2 b k b0 (by omega) (by omega)
  rw [if_pos (by rw [o5 t _ (by omega) (by omega), y3 _ (by decide), o3 t _ (by omega) (by omega), f2 _ (by decide) (by decide)]; exact k1)]
  have z5 : c5 0 0 = t + 7 := by rw [n5.1, z4]; omega
  have w5 : ∀ b k, b ≠ t → (zup c5 t 6 (t + 5)) b k = c5 b k := fun b k hb => zup_ne (Or.inl hb)
  have y5 : ∀ k, k ≠ 6 → (zup c5 t 6 (t + 5)) t k = c5 t k := fun k hk => zup_ne (Or.inr hk)
  have x5 : (zup c5 t 6 (t + 5)) t 6 = t + 5 := zup_eq ⟨rfl, rfl⟩
  generalize zup c5 t 6 (t + 5) = c6 at w5 y5 x5 ⊢
  have z6 : c6 0 0 = t + 7 := by rw [w5 0 0 (by omega), z5]
  have s6 : c6 0 1 = c 0 1 + 132 := by rw [w5 0 1 (by omega), n5.2.1, w3 0 1 (by omega), n3.2.1, G2.2.1]; omega
  have o6 : ∀ k, (znew c6 7 4) t k = c6 t k := fun k => znw_o (by omega) (by omega)
  rw [ze_X9_init_45, if_pos (znw_k rfl), z6, I_rule d (by omega), zbnd_some, if_pos (by rw [o6, y5 _ (by decide), o5 t _ (by omega) (by omega), y3 _ (by decide), o3 t _ (by omega) (by omega), f2 _ (by decide) (by decide)]; exact k1), ze_X9_init_56]
  have T : ∀ k, k ≠ 3 → k ≠ 4 → k ≠ 5 → k ≠ 6 → k ≠ 7 → (zup (znew c6 7 4) t 7 (t + 7)) t k = c1 t k := fun k e3 e4 e5 e6 e7 => by rw [zup_ne (Or.inr e7), o6, y5 k e6, o5 t _ (by omega) (by omega), y3 _ e5, o3 t _ (by omega) (by omega), f2 _ e3 e4]
  have O1 : ∀ b k, b ≠ 0 → b ≠ t → b < t + 2 → (zup (znew c6 7 4) t 7 (t + 7)) b k = c1 b k := fun b k b0 bt bl => by rw [zup_ne (Or.inl bt), znw_o (by omega) b0, w5 b k bt, o5 b k b0 (by omega), w3 b k bt, o3 b k b0 bl, g2 b k bt]
  have O3 : ∀ b, t + 2 ≤ b → b < t + 2 + 3 → ∀ k, (zup (znew c6 7 4) t 7 (t + 7)) b k = c3 b k := fun b b0 b1 k => by rw [zup_ne (by omega), znw_o (by omega) (by omega), w5 b k (by omega), o5 b k (by omega) (by omega), w3 b k (by omega)]
  have O5 : ∀ b, t + 5 ≤ b → b < t + 5 + 2 → ∀ k, (zup (znew c6 7 4) t 7 (t + 7)) b k = c5 b k := fun b b0 b1 k => by rw [zup_ne (by omega), znw_o (by omega) (by omega), w5 b k (by omega)]
  refine ⟨_, rfl, ⟨by rw [zup_ne (by omega), znw_0 (by omega), z6, h0]; omega, by rw [zup_ne (by omega), znw_1 (by omega), s6]; omega, fun b k b0 bt bl => by rw [O1 b k b0 bt (by omega)]; exact H1.2.2 b k b0 bt bl⟩, ⟨ht, ?_, ?_, ⟨?_, ?_⟩, ?_, ⟨?_, (N3.same O3).1⟩, ⟨?_, (N5.same O5).1⟩, zup_eq ⟨rfl, rfl⟩, ?_⟩, ?_, ?_⟩
  · rw [T _ (by decide) (by decide) (by decide) (by decide) (by decide)]; exact k1
  · rw [T _ (by decide) (by decide) (by decide) (by decide) (by decide)]; exact p1
  · rw [O1 _ _ (by omega) (by omega) (by omega)]; exact a1
  · rw [O1 _ _ (by omega) (by omega) (by omega)]; exact b1
  · rw [T _ (by decide) (by decide) (by decide) (by decide) (by decide), v1]; decide
  · rw [zup_ne (by omega), o6, y5 _ (by decide), o5 t _ (by omega) (by omega), x3]
  · rw [zup_ne (by omega), o6, x5]
  · rw [zup_ne (by omega)]; exact znw_k z6
  · rw [T _ (by decide) (by decide) (by decide) (by decide) (by decide)]; exact v1
  · rw [zup_ne (by omega), o6, y5 _ (by decide), o5 t _ (by omega) (by omega), y3 _ (by decide), o3 t _ (by omega) (by omega)]; exact f4
