/-! The class's links: scores, heads, senses. -/
theorem zany_succ (f : Nat → Bool) (n : Nat) : (List.range (n + 1)).any f = ((List.range n).any f || f n) := by
  rw [List.range_succ, List.any_append]
  simp
theorem zany_none {f : Nat → Bool} {n : Nat} (h : ∀ j, j < n → f j = false) : (List.range n).any f = false := by
  rw [List.any_eq_false]
  intro x hx
  rw [h x (List.mem_range.mp hx)]
  decide
/-- the words of a page are followed: sections and bases are in their cells -/
def KBas (c : zC) (K : Int) (A : zA2) (p n : Int) : Prop := ∀ i : Nat, (i : Int) < n → c (K + 2) i = A 2 (20 * p + i) ∧ BLat c (K + 11 + 3 * i) (mBL A p i) ∧ (mBL A p i).length ≤ 43
section
variable {c : zC} {K n p : Int} {A : zA2} (d : Nat)
theorem zs_K_sc_1 (Q i win sc h w j : Int) (F : Nat) (hsc : 0 ≤ sc ∧ sc < 1000) (hh : 0 ≤ h ∧ h < 1000) : zex zc_X3_scoreOf zk_X3_scoreOf (zrun zTab (d + 1)) (F + 1) 31 [(2, K), (2, Q), (0, i), (0, win), (0, sc), (0, h), (1, w), (3, 0), (0, 1), (0, j), (3, 0)] [] c = zex zc_X3_scoreOf zk_X3_scoreOf (zrun zTab (d + 1)) F 6 [(2, K), (2, Q), (0, i), (0, win), (0, sc + 1), (0, h + 1), (3, 0), (3, 0), (3, 0), (3, 0), (3, 0)] [] c := by
  rw [ze_X3_scoreOf_31, if_neg (show ¬ ((1 : Int) = 0) by decide), zadd_id (by omega) (by omega), zw_id' (by omega) (by omega)]
  by_cases e1 : j < 0
  · rw [if_pos e1]
  · rw [if_neg e1]
    by_cases e2 : j < zsub i win
    · rw [if_pos e2]
    · rw [if_neg e2, if_neg (show ¬ ((1 : Int) = 0) by decide)]
theorem zs_K_sc_in (h : LLk c K n) (hb : LLb c K) (hB : KBas c K A p n) (Q : Int) {i : Nat} (hi : (i : Int) < n) (win : Int) (hw : 0 ≤ win ∧ win ≤ 1000) (sc hh w : Int) (hsc : 0 ≤ sc ∧ sc < 1000) (hhh : 0 ≤ hh ∧ hh < 1000) (f : Nat → Bool) (hf : ∀ j : Nat, f j = (decide ((i : Int) - win ≤ (j : Int) ∧ A 2 (20 * p + j) = A 2 (20 * p + i)) && mhas (mBL A p j) w)) : ∀ (m F : Nat), m ≤ i → m + 1 ≤ F →
    ∃ G, F ≤ G + m + 1 ∧ G ≤ F ∧ zex zc_X3_scoreOf zk_X3_scoreOf (zrun zTab (d + 1)) (F + 1) 31 [(2, K), (2, Q), (0, (i : Int)), (0, win), (0, sc), (0, hh), (1, w), (3, 0), (0, 0), (0, (m : Int) - 1), (3, 0)] [] c = zex zc_X3_scoreOf zk_X3_scoreOf (zrun zTab (d + 1)) G 6 [(2, K), (2, Q), (0, (i : Int)), (0, win), (0, sc + (if (List.range m).any f = true then 1 else 0)), (0, hh + 1), (3, 0), (3, 0), (3, 0), (3, 0), (3, 0)] [] c := by
  have h1 := h.2.1
  have h0 := h.1
  have hn := h.2.2.2.2.2
  intro m
  induction m with
  | zero =>
    intro F hm hF
    refine ⟨F, by omega, by omega, ?_⟩
    rw [ze_X3_scoreOf_31, if_pos (by omega), if_pos rfl, zadd_id (by omega) (by omega), zw_id' (by omega) (by omega), if_neg (show ¬ ((List.range 0).any f = true) by simp)]
  | succ m ih =>
    intro F hm hF
    obtain ⟨F, rfl⟩ : ∃ G, F = G + 1 := ⟨F - 1, by omega⟩
    have hsub : zsub (i : Int) win = (i : Int) - win := zsub_id (by omega) (by omega)
    rw [ze_X3_scoreOf_31, show ((m + 1 : Nat) : Int) - 1 = (m : Int) by omega, if_neg (by omega), hsub]
    by_cases e1 : (m : Int) < (i : Int) - win
    · refine ⟨F + 1, by omega, by omega, ?_⟩
      rw [if_pos e1, if_pos rfl, zany_none (fun j hj => by rw [hf, decide_eq_false (by omega), Bool.false_and]), if_neg (by decide), zadd_id (by omega) (by omega), zw_id' (by omega) (by omega)]
    · have hr := (hB m (by omega))
      have hri := (hB i (by omega))
      rw [if_neg e1, if_pos rfl, if_pos h1, zs_K_basesAt d h hb, zbnd_some, if_pos (show 0 ≤ (m : Int) ∧ (m : Int) < n from ⟨by omega, by omega⟩), if_neg (by omega), if_pos h1, zs_K_sectionAt d h, zbnd_some, if_pos (show 0 ≤ (m : Int) ∧ (m : Int) < n from ⟨by omega, by omega⟩), if_pos h1, zs_K_sectionAt d h, zbnd_some, if_pos (show 0 ≤ (i : Int) ∧ (i : Int) < n from ⟨by omega, by omega⟩), hr.1, hri.1, zw_id' (by omega) (by omega), show (m : Int) + -1 = (m : Int) - 1 by omega, zany_succ, hf m]
      have hbs := (hb m (by omega) (by omega)).2
      by_cases e2 : A 2 (20 * p + m) = A 2 (20 * p + i)
      · rw [if_pos e2, if_pos hbs.1, zs_B_has d c hbs hr.2.1 hr.2.2, zbnd_some, decide_eq_true (show (i : Int) - win ≤ (m : Int) ∧ A 2 (20 * p + m) = A 2 (20 * p + i) from ⟨by omega, e2⟩), Bool.true_and]
        by_cases e3 : mhas (mBL A p m) w = true
        · rw [if_pos e3, if_neg (by decide), e3, Bool.or_true, if_pos rfl]
          exact ⟨F, by omega, by omega, zs_K_sc_1 d Q i win sc hh w _ F hsc hhh⟩
        · rw [if_neg e3, if_pos rfl, (Bool.not_eq_true _).mp e3, Bool.or_false]
          obtain ⟨G, g1, g2, g3⟩ := ih F (by omega) (by omega)
          exact ⟨G, by omega, by omega, g3⟩
      · rw [if_neg e2, decide_eq_false (fun q => e2 q.2), Bool.false_and, Bool.or_false]
        obtain ⟨G, g1, g2, g3⟩ := ih F (by omega) (by omega)
        exact ⟨G, by omega, by omega, g3⟩
theorem zs_K_sc_out (h : LLk c K n) (hb : LLb c K) (hB : KBas c K A p n) {Q s : Int} (hQ : LSense c Q) (hc : A 11 s = c Q 2) (hq : ∀ x, 0 ≤ x → x < c Q 2 → A 12 (4 * s + x) = c (Q + 1) x) {i : Nat} (hi : (i : Int) < n) (hw : 0 ≤ A 14 0 ∧ A 14 0 ≤ 1000) : ∀ (t F x : Nat), 25 * t ≤ F → (x : Int) + t = c Q 2 → zex zc_X3_scoreOf zk_X3_scoreOf (zrun zTab (d + 1)) (F + 1) 6 [(2, K), (2, Q), (0, (i : Int)), (0, A 14 0), (0, mScN A p i s x), (0, (x : Int)), (3, 0), (3, 0), (3, 0), (3, 0), (3, 0)] [] c = some (mSc A p i s, c) := by
  have q1 := hQ.1
  have q5 := hQ.2.2.2
  have hn := h.2.2.2.2.2
  intro t
  induction t with
  | zero =>
    intro F x hF hx
    rw [ze_X3_scoreOf_6, if_pos q1, if_neg (by omega)]
    unfold mSc
    rw [show (A 11 s).toNat = x by omega]
  | succ t ih =>
    intro F x hF hx
    have hs := mScN_le A p i s x
    obtain ⟨F, rfl⟩ : ∃ G, F = G + 1 := ⟨F - 1, by omega⟩
    rw [ze_X3_scoreOf_6, if_pos q1, if_pos (by omega), if_pos q1, zs_S_hintAt d c hQ, zbnd_some, if_pos (show 0 ≤ (x : Int) ∧ (x : Int) < c Q 2 from ⟨by omega, by omega⟩), zsub_id (by omega) (by omega)]
    obtain ⟨G, g1, g2, g3⟩ := zs_K_sc_in d h hb hB Q hi (A 14 0) hw (mScN A p i s x) x (c (Q + 1) x) (by omega) (by omega) _ (fun _ => rfl) i F (by omega) (by omega)
    rw [g3]
    obtain ⟨G, rfl⟩ : ∃ G', G = G' + 1 := ⟨G - 1, by omega⟩
    have := ih G (x + 1) (by omega) (by omega)
    rw [← this]
    have e : mScN A p i s (x + 1) = mScN A p i s x + (if mSt A p i (c (Q + 1) x) = true then 1 else 0) := by
      rw [← hq x (by omega) (by omega)]; rfl
    rw [e, show ((x + 1 : Nat) : Int) = (x : Int) + 1 by omega]
    rfl
theorem zs_K_scoreOf (h : LLk c K n) (hb : LLb c K) (hB : KBas c K A p n) {Q s : Int} (hQ : LSense c Q) (hc : A 11 s = c Q 2) (hq : ∀ x, 0 ≤ x → x < c Q 2 → A 12 (4 * s + x) = c (Q + 1) x) {i : Nat} (hi : (i : Int) < n) (hw : 0 ≤ A 14 0 ∧ A 14 0 ≤ 1000) : zrun zTab (d + 2) 18 [K, Q, i, A 14 0] c = some (mSc A p i s, c) := by
  have q5 := hQ.2.2.2
  rw [ze_X3_scoreOf]
  exact zs_K_sc_out d h hb hB hQ hc hq hi hw (c Q 2).toNat 19998 0 (by omega) (by omega)
end
