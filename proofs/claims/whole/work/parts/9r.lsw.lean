/-! One round of the law. -/
section
variable {c : zC} {σ : aS} {i : Int} (d : Nat)
theorem LSW_ok (h : RC c σ) (m : RM c σ) (hb : ∀ k, c 1 k < 2147483648) (s : ∀ j, 1 ≤ j → j ≤ 6 → c 1 (-1) = 99 ∧ (0 : Int) ≤ zadd i j ∧ zadd i j < c 1 (-2)) (hi : zw (i + 7) = i + 7) (K : zK) (x : Int) : LR K c i (LSW (zrun zTab (d + 40)) K 1 2 681 i x c) := by
  have g : c 2 (-1) = 11 := h.1.1.1
  have hv := m.v
  unfold LSW
  by_cases q0 : x = 0
  · rw [if_pos q0]; exact zb_0_ok s g hi (LQ.ch m (G_feed d h) (fun c1 m1 => M_feed d m1))
  rw [if_neg q0]
  by_cases q1 : x = 1
  · rw [if_pos q1]; exact zb_1_ok s g hi (LQ.ch m (G_page d h) (fun c1 m1 => M_page d m1))
  rw [if_neg q1]
  by_cases q2 : x = 2
  · rw [if_pos q2]; exact zb_2_ok s g hi (LQ.ch m (G_sense d h) (fun c1 m1 => M_sense d m1))
  rw [if_neg q2]
  by_cases q3 : x = 3
  · rw [if_pos q3]; exact zb_3_ok s g hi (LQ.ch m (G_rule d h (M_rule d m).vk) (fun c1 m1 => M_rule d m1))
  rw [if_neg q3]
  by_cases q4 : x = 4
  · rw [if_pos q4]; exact zb_4_ok s g hi (LQ.ch m (G_rmS d h) (fun c1 m1 => M_rmS d m1))
  rw [if_neg q4]
  by_cases q5 : x = 5
  · rw [if_pos q5]; exact zb_5_ok s g hi (LQ.ch m (G_rmR d h) (fun c1 m1 => M_rmR d m1))
  rw [if_neg q5]
  by_cases q6 : x = 6
  · rw [if_pos q6]; exact zb_6_ok s g hi (LQ.ch m (G_par d h) (fun c1 m1 => M_par d m1))
  rw [if_neg q6]
  by_cases q7 : x = 7
  · rw [if_pos q7]; exact zb_7_ok s g hi (LQ.ch m (G_bud d h) (fun c1 m1 => M_bud d m1))
  rw [if_neg q7]
  by_cases q8 : x = 8
  · rw [if_pos q8]; exact zb_8_ok s g hi (LQ.ch m (G_ins d h hv (M_ins d m).vk) (fun c1 m1 => M_ins d m1))
  rw [if_neg q8]
  by_cases q9 : x = 9
  · rw [if_pos q9]; exact zb_9_ok s g hi (LQ.ch m (G_rep d h hv (M_rep d m).vk) (fun c1 m1 => M_rep d m1))
  rw [if_neg q9]
  by_cases q10 : x = 10
  · rw [if_pos q10]; exact zb_10_ok s g hi (LQ.ch m (G_cut d h hv (M_cut d m).vk) (fun c1 m1 => M_cut d m1))
  rw [if_neg q10]
  by_cases q11 : x = 11
  · rw [if_pos q11]; exact zb_11_ok s g hi (LQ.q m (GQ.of h (G_edited d h)) (fun c1 m1 => MAk.of m1 (M_edited d m1)))
  rw [if_neg q11]
  by_cases q12 : x = 12
  · rw [if_pos q12]; exact zb_12_ok s g hi (LQ.q m (GQ.of h (G_cause d h)) (fun c1 m1 => MAk.of m1 (M_cause d m1)))
  rw [if_neg q12]
  by_cases q13 : x = 13
  · rw [if_pos q13]; exact zb_13_ok s g hi (LQ.q m (GQ.of h (G_word d h hv)) (fun c1 m1 => MAk.of m1 (M_wordq d m1)))
  rw [if_neg q13]
  by_cases q14 : x = 14
  · rw [if_pos q14]; exact zb_14_ok s g hi (LQ.q m (G_told d h hv) (fun c1 m1 => M_told d m1))
  rw [if_neg q14]
  by_cases q15 : x = 15
  · rw [if_pos q15]; exact zb_15_ok s g hi (LQ.q m (G_base d h hv) (fun c1 m1 => M_base d m1))
  rw [if_neg q15]
  by_cases q16 : x = 16
  · rw [if_pos q16]; exact zb_16_ok s g hi (LQ.q m (G_ofSense d h hv) (fun c1 m1 => M_ofSense d m1))
  rw [if_neg q16]
  by_cases q17 : x = 17
  · rw [if_pos q17]; exact zb_17_ok s g hi (LQ.q m (G_ofPage d h hv) (fun c1 m1 => M_ofPage d m1))
  rw [if_neg q17]
  by_cases q18 : x = 18
  · rw [if_pos q18]; exact zb_18_ok s g hi (LQ.q m (G_lk d h hv) (fun c1 m1 => M_link d m1 (hb _)))
  rw [if_neg q18]
  by_cases q19 : x = 19
  · rw [if_pos q19]; exact zb_19_ok s g hi (LQ.q m (G_wo d h hv) (fun c1 m1 => M_wo d m1 (hb _)))
  rw [if_neg q19]
  by_cases q20 : x = 20
  · rw [if_pos q20]; exact zb_20_ok s g hi (LQ.q m (G_again d h hv) (fun c1 m1 => M_again d m1))
  rw [if_neg q20]
  by_cases q21 : x = 21
  · rw [if_pos q21]; exact zb_21_ok s g hi (LQ.ch m (G_back d h) (fun c1 m1 => M_back d m1))
  rw [if_neg q21]
  by_cases q22 : x = 22
  · rw [if_pos q22]; exact zb_22_ok s g hi (LQ.ch m (G_image d h) (fun c1 m1 => M_image d m1))
  rw [if_neg q22]
  by_cases q23 : x = 23
  · rw [if_pos q23]; exact zb_23_ok s g hi (LQ.ch m (G_undo d h) (fun c1 m1 => M_undo d m1))
  rw [if_neg q23]
  by_cases q24 : x = 24
  · rw [if_pos q24]; exact zb_24_ok s g hi (LQ.q m (G_count d h hv) (fun c1 m1 => M_count d m1))
  rw [if_neg q24]
  exact ⟨c, σ, by rw [hi], h, m, fun _ _ _ => rfl⟩
end
