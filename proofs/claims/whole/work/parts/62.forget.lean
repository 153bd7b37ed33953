/-! The class itself: its links are forgotten, a change begins. -/
def zfor (c : zC) (i : Int) : zC := fun b k => if k = 13 ∧ 397 ≤ b ∧ b < 397 + 71 * i ∧ (b - 397) % 71 = 0 then 0 else c b k
theorem zfor_0 (c : zC) : zfor c 0 = c := by
  funext b k; unfold zfor; rw [if_neg (by omega)]
theorem zfor_o {c : zC} {i b k : Int} (h : k ≠ 13 ∨ b < 397 ∨ 397 + 71 * i ≤ b ∨ (b - 397) % 71 ≠ 0) : zfor c i b k = c b k := by
  unfold zfor; rw [if_neg (by omega)]
theorem zfor_up (c : zC) (i : Int) (h : 0 ≤ i) : zup (zfor c i) (397 + 71 * i) 13 0 = zfor c (i + 1) := by
  funext b k
  unfold zfor
  by_cases e : b = 397 + 71 * i ∧ k = 13
  · rw [zup_eq e, if_pos (by omega)]
  · rw [zup_ne (by omega)]
    by_cases e2 : k = 13 ∧ 397 ≤ b ∧ b < 397 + 71 * i ∧ (b - 397) % 71 = 0
    · rw [if_pos e2, if_pos (by omega)]
    · rw [if_neg e2, if_neg (by omega)]
section
variable {c : zC} (d : Nat)
theorem zs_G_forget_l (h : LGo c) : ∀ (t F i : Nat), t ≤ F → i + t = 4 → zex zc_X11_forgetLinks zk_X11_forgetLinks (zrun zTab d) (F + 1) 2 [(2, 2), (0, (i : Int)), (3, 0)] [] (zfor c i) = some (0, zfor c 4) := by
  obtain ⟨h1, -, -, -, -, f5, -, ⟨a1, a2⟩, hK⟩ := h
  intro t
  induction t with
  | zero =>
    intro F i hF hi
    rw [ze_X11_forgetLinks_2, zfor_o (b := 2) (k := -1) (by omega), if_pos h1, zfor_o (b := 2) (k := 5) (by omega), f5, zfor_o (b := 393) (k := -1) (by omega), if_pos a1, zfor_o (b := 393) (k := -2) (by omega), a2, if_neg (by omega), show (i : Int) = 4 by omega]
  | succ t ih =>
    intro F i hF hi
    obtain ⟨F, rfl⟩ : ∃ G, F = G + 1 := ⟨F - 1, by omega⟩
    obtain ⟨k1, ⟨n, k2⟩, -⟩ := hK i (by omega) (by omega)
    rw [ze_X11_forgetLinks_2, zfor_o (b := 2) (k := -1) (by omega), if_pos h1, zfor_o (b := 2) (k := 5) (by omega), f5, zfor_o (b := 393) (k := -1) (by omega), if_pos a1, zfor_o (b := 393) (k := -2) (by omega), a2, if_pos (by omega), if_pos h1, if_pos (show c 393 (-1) = 113 ∧ (0 : Int) ≤ (i : Int) ∧ (i : Int) < 4 from ⟨a1, by omega, by omega⟩), zfor_o (b := 393) (k := (i : Int)) (by omega), k1, if_neg (by omega), zfor_o (b := 397 + 71 * (i : Int)) (k := -1) (by omega), if_pos k2.2.1, zfor_up c i (by omega), zw_id' (by omega) (by omega), show (i : Int) + 1 = ((i + 1 : Nat) : Int) by omega]
    exact ih F (i + 1) (by omega) (by omega)
theorem zs_G_forget (h : LGo c) : zrun zTab (d + 1) 129 [2] c = some (0, zfor c 4) := by
  rw [ze_X11_forgetLinks]
  have := zs_G_forget_l d h 4 19998 0 (by omega) (by omega)
  rw [show ((0 : Nat) : Int) = 0 from rfl, zfor_0] at this
  exact this
end
