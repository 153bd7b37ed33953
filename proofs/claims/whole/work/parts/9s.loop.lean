/-! The loop, and what is wanted of the small machine. -/
section
variable (d : Nat)
theorem Z_loop {cs : zC} {L : Nat} (hL : L ≤ 3584) (k1 : cs 1 (-1) = 99) (k2 : cs 1 (-2) = L) (hb : ∀ k, cs 1 k < 2147483648) : ∀ (t F i : Nat) (c : zC) (σ : aS), t ≤ F → i ≤ 4000 → L ≤ i + 7 * t → RC c σ → RM c σ → (∀ b, b < 2 → ∀ k, c b k = cs b k) → ∃ c', zex zc_L_law zk_L_law (zrun zTab (d + 40)) (F + 1) 18 [(2, 1), (2, 2), (2, 681), (0, (i : Int))] [] c = some (1, c') ∧ ∀ b, b < 2 → ∀ k, c' b k = cs b k := by
  intro t
  induction t with
  | zero =>
    intro F i c σ hF h4 hi h m e
    rw [ze_L_law_18, e 1 (by decide), if_pos k1, e 1 (by decide), k2, zsub_id (by omega) (by omega), if_neg (by omega)]
    exact ⟨c, rfl, e⟩
  | succ t ih =>
    intro F i c σ hF h4 hi h m e
    obtain ⟨F, rfl⟩ : ∃ G, F = G + 1 := ⟨F - 1, by omega⟩
    have a1 : c 1 (-1) = 99 := (e 1 (by decide) _).trans k1
    have a2 : c 1 (-2) = L := (e 1 (by decide) _).trans k2
    rw [ze_L_law_18, if_pos a1, a2, zsub_id (by omega) (by omega)]
    by_cases q : (i : Int) ≤ (L : Int) - 7
    · rw [if_pos q, if_pos ⟨a1, by omega, by omega⟩]
      have s : ∀ j, 1 ≤ j → j ≤ 6 → c 1 (-1) = 99 ∧ (0 : Int) ≤ zadd (i : Int) j ∧ zadd (i : Int) j < c 1 (-2) := fun j j0 j1 => by
        rw [zadd_id (by omega) (by omega), a2]
        exact ⟨a1, by omega, by omega⟩
      obtain ⟨c2, σ', r, h2, m2, e2⟩ := LSW_ok (i := (i : Int)) d h m (fun k => by rw [e 1 (by decide)]; exact hb k) s (zw_id' (by omega) (by omega)) (zex zc_L_law zk_L_law (zrun zTab (d + 40)) (F + 1)) (ziand (c 1 (i : Int)) 31)
      rw [r, show (i : Int) + 7 = ((i + 7 : Nat) : Int) by omega]
      exact ih F (i + 7) c2 σ' (by omega) (by omega) (by omega) h2 m2 (fun b hb k => (e2 b hb k).trans (e b hb k))
    · rw [if_neg q]
      exact ⟨c, rfl, e⟩
end
theorem zlaw_ok : zLaw := by
  intro L xs hL
  have z0 : zc0 L xs 0 0 = 2 := rfl
  have w0 : zc0 L xs 0 1 = 0 := rfl
  obtain ⟨c1, r1, h1, o1, z1, w1⟩ := I_go 36 (c := znew (zc0 L xs) 11 7) (by rw [znw_0 (by rw [z0]; decide), z0]; decide) (znw_k z0) (znw_v z0 (by decide))
  obtain ⟨c2, r2, m2, o2, z2, w2⟩ := I_mo 39 (c1 4) (c := znew c1 12 29) (by rw [znw_0 (by rw [z1]; decide), z1]; decide) (znw_k z1) (fun k hk => znw_v z1 hk)
  have n1 : ∀ b k, b ≠ 0 → b < 681 → c2 b k = c1 b k := fun b k b0 bl => by rw [o2 b k b0 bl, znw_o (by rw [z1]; omega) b0]
  have s1 : ∀ k, c2 1 k = zc0 L xs 1 k := fun k => by rw [n1 1 k (by decide) (by decide), o1 k, znw_o (by rw [z0]; decide) (by decide)]
  have h2 : RC c2 (s0 (c1 4)) := h1.far (fun b b0 b1 k => n1 b k (by omega) b1)
  have hb : ∀ k, c2 1 k < 2147483648 := fun k => by
    rw [s1 k]
    unfold zc0
    rw [if_neg (by decide), if_pos rfl]
    by_cases e1 : k = -1
    · rw [if_pos e1]; decide
    rw [if_neg e1]
    by_cases e2 : k = -2
    · rw [if_pos e2]; omega
    rw [if_neg e2]
    by_cases e3 : 0 ≤ k ∧ k < (L : Int)
    · rw [if_pos e3]; exact Int32.toInt_lt _
    · rw [if_neg e3]; decide
  obtain ⟨c3, r3, e3⟩ := Z_loop 0 (cs := c2) hL ((s1 _).trans rfl) ((s1 _).trans rfl) hb 512 19998 0 c2 (s0 (c1 4)) (by decide) (by decide) (by omega) h2 m2 (fun _ _ _ => rfl)
  refine ⟨40, c3, by decide, ?_, ?_, ?_⟩
  · show zex zc_L_law zk_L_law (zrun zTab 40) (19999 + 1) 0 [(2, 1), (3, 0), (3, 0), (3, 0)] [] (zc0 L xs) = some (1, c3)
    rw [ze_L_law, if_pos (znw_k rfl), z0, r1, zbnd_some, if_pos (znw_k rfl), z1, r2, zbnd_some]
    exact r3
  · rw [e3 0 (by decide), z2]; decide
  · rw [e3 0 (by decide), w2, znw_1 (by rw [z1]; decide), w1, znw_1 (by rw [z0]; decide), w0]; decide
