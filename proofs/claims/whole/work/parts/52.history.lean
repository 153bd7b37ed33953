/-! The class's history. -/
def LHis (c : zC) (H : Int) : Prop := 0 < H ∧ c H (-1) = 3 ∧ c H 0 = H + 1 ∧ LArr c (H + 1) 118 8 ∧ (∀ j, 0 ≤ j → j < 8 → (H + 2 ≤ c (H + 1) j ∧ c (H + 1) j ≤ H + 268 ∧ (c (H + 1) j - H - 2) % 38 = 0) ∧ LState c (c (H + 1) j)) ∧ (∀ i j, 0 ≤ i → i < j → j < 8 → c (H + 1) i ≠ c (H + 1) j) ∧ 0 ≤ c H 1 ∧ c H 1 ≤ 8
def hv (c : zC) (H j : Int) : zA2 := cview c (c (H + 1) j)
def HFr (c c' : zC) (H : Int) : Prop := (∀ b, (b < H ∨ H + 306 ≤ b) → ∀ k, c' b k = c b k) ∧ ∀ b k, k < 0 → c' b k = c b k
def HRul (c : zC) (H : Int) : Prop := ∀ j, 0 ≤ j → j < c H 1 → RulesOK c (c (H + 1) j)
theorem zdn_up (c : zC) (a i : Int) (h : 0 ≤ i) : zup (zdn c a 0 i) a i (c a (i + 1)) = zdn c a 0 (i + 1) := by
  funext b k
  by_cases e : b = a ∧ k = i
  · rw [zup_eq e]
    unfold zdn
    rw [if_pos (by omega), e.1, e.2]
  · rw [zup_ne (by omega)]
    unfold zdn
    by_cases e2 : b = a ∧ 0 ≤ k ∧ k < i
    · rw [if_pos e2, if_pos (by omega)]
    · rw [if_neg e2, if_neg (by omega)]
theorem zdn_o {c : zC} {a i j b k : Int} (h : b ≠ a ∨ k < i ∨ j ≤ k) : zdn c a i j b k = c b k := by
  unfold zdn; rw [if_neg (by omega)]
theorem zdn_i {c : zC} {a i j k : Int} (h : i ≤ k) (h2 : k < j) : zdn c a i j a k = c a (k + 1) := by
  unfold zdn; rw [if_pos ⟨rfl, h, h2⟩]
section
variable {c : zC} {H S : Int} (d : Nat)
theorem zs_H_dr_l (h : LHis c H) : ∀ (t F i : Nat), t ≤ F → i + t = 7 → zex zc_X2_dropOldest zk_X2_dropOldest (zrun zTab d) (F + 1) 19 [(2, H), (2, c (H + 1) 0), (0, (i : Int))] [] (zdn c (H + 1) 0 i) = some (0, zup (zup (zdn c (H + 1) 0 7) (H + 1) 7 (c (H + 1) 0)) H 1 7) := by
  obtain ⟨h0, h1, h2, ⟨h3, h4⟩, h5, h6, h7⟩ := h
  intro t
  induction t with
  | zero =>
    intro F i hF hi
    have : i = 7 := by omega
    subst this
    rw [show ((7 : Nat) : Int) = 7 from rfl]
    have hq := (h5 0 (by omega) (by omega)).2.2.1
    rw [ze_X2_dropOldest_19, zdn_o (a := H + 1) (b := H) (k := -1) (by omega), if_pos h1, zdn_o (a := H + 1) (b := H) (k := 0) (by omega), h2, zdn_o (a := H + 1) (b := H + 1) (k := -1) (by omega), if_pos h3, zdn_o (a := H + 1) (b := H + 1) (k := -2) (by omega), h4, zadd_id (by omega) (by omega), if_neg (by omega), if_pos h1, if_pos h1, if_pos h3, zsub_id (by omega) (by omega), if_pos (show c (H + 1) (-1) = 118 ∧ (0 : Int) ≤ 8 - 1 ∧ (8 : Int) - 1 < 8 from ⟨h3, by decide, by decide⟩), zdn_o (b := c (H + 1) 0) (k := -1) (by omega), if_pos hq, zup_ne (a := H + 1) (b := H) (j := -1) (by omega), zdn_o (a := H + 1) (b := H) (k := -1) (by omega), if_pos h1, zup_ne (a := H + 1) (b := H) (j := 0) (by omega), zdn_o (a := H + 1) (b := H) (k := 0) (by omega), h2, zup_ne (a := H + 1) (b := H + 1) (j := -1) (by omega), zdn_o (a := H + 1) (b := H + 1) (k := -1) (by omega), if_pos h3, if_pos h1, zup_ne (a := H + 1) (b := H + 1) (j := -2) (by omega), zdn_o (a := H + 1) (b := H + 1) (k := -2) (by omega), h4, zsub_id (by omega) (by omega)]
    rfl
  | succ t ih =>
    intro F i hF hi
    obtain ⟨F, rfl⟩ : ∃ G, F = G + 1 := ⟨F - 1, by omega⟩
    have hq := (h5 ((i : Int) + 1) (by omega) (by omega)).2.2.1
    rw [ze_X2_dropOldest_19, zdn_o (a := H + 1) (b := H) (k := -1) (by omega), if_pos h1, zdn_o (a := H + 1) (b := H) (k := 0) (by omega), h2, zdn_o (a := H + 1) (b := H + 1) (k := -1) (by omega), if_pos h3, zdn_o (a := H + 1) (b := H + 1) (k := -2) (by omega), h4, zadd_id (by omega) (by omega), if_pos (by omega), if_pos h1, if_pos h1, if_pos (show c (H + 1) (-1) = 118 ∧ (0 : Int) ≤ (i : Int) + 1 ∧ (i : Int) + 1 < 8 from ⟨h3, by omega, by omega⟩), if_pos (show c (H + 1) (-1) = 118 ∧ (0 : Int) ≤ (i : Int) ∧ (i : Int) < 8 from ⟨h3, by omega, by omega⟩), zdn_o (a := H + 1) (b := H + 1) (k := (i : Int) + 1) (by omega), zdn_o (b := c (H + 1) ((i : Int) + 1)) (k := -1) (by omega), if_pos hq, zdn_up c (H + 1) i (by omega), zw_id' (by omega) (by omega), show (i : Int) + 1 = ((i + 1 : Nat) : Int) by omega]
    exact ih F (i + 1) (by omega) (by omega)
theorem zdn_0 (c : zC) (a : Int) : zdn c a 0 0 = c := by
  funext b k
  rw [zdn_o (by omega)]
theorem zs_H_drop (h : LHis c H) : ∃ c', zrun zTab (d + 1) 12 [H] c = some (0, c') ∧ HFr c c' H ∧ LHis c' H ∧ c' H 1 = 7 ∧ (∀ j, 0 ≤ j → j < 7 → c' (H + 1) j = c (H + 1) (j + 1)) ∧ ∀ b, b ≠ H → b ≠ H + 1 → ∀ k, c' b k = c b k := by
  have hh := zs_H_dr_l d h 7 19998 0 (by omega) (by omega)
  rw [show ((0 : Nat) : Int) = 0 from rfl, zdn_0] at hh
  obtain ⟨h0, h1, h2, ⟨h3, h4⟩, h5, h6, h7⟩ := h
  obtain ⟨c', hc⟩ : ∃ c', c' = zup (zup (zdn c (H + 1) 0 7) (H + 1) 7 (c (H + 1) 0)) H 1 7 := ⟨_, rfl⟩
  have o : ∀ b, b ≠ H → b ≠ H + 1 → ∀ k, c' b k = c b k := fun b q1 q2 k => by rw [hc, zup_ne (by omega), zup_ne (by omega), zdn_o (by omega)]
  have ng : ∀ b k, k < 0 → c' b k = c b k := fun b k q => by rw [hc, zup_ne (by omega), zup_ne (by omega), zdn_o (by omega)]
  have r : ∀ j, 0 ≤ j → j < 7 → c' (H + 1) j = c (H + 1) (j + 1) := fun j j0 j1 => by rw [hc, zup_ne (by omega), zup_ne (by omega), zdn_i (by omega) (by omega)]
  have r7 : c' (H + 1) 7 = c (H + 1) 0 := by rw [hc, zup_ne (by omega), zup_eq ⟨rfl, rfl⟩]
  have rr : ∀ j, 0 ≤ j → j < 8 → ∃ i, 0 ≤ i ∧ i < 8 ∧ c' (H + 1) j = c (H + 1) i := fun j j0 j1 => by
    by_cases e : j < 7
    · exact ⟨j + 1, by omega, by omega, r j j0 e⟩
    · exact ⟨0, by omega, by omega, by rw [show j = 7 by omega]; exact r7⟩
  have hz1 : c' H 1 = 7 := by rw [hc, zup_eq ⟨rfl, rfl⟩]
  have hz0 : c' H 0 = c H 0 := by rw [hc, zup_ne (by omega), zup_ne (by omega), zdn_o (by omega)]
  refine ⟨c', ?_, ⟨fun b hb k => o b (by omega) (by omega) k, ng⟩, ⟨h0, by rw [ng _ _ (by decide)]; exact h1, by rw [hz0]; exact h2, ⟨by rw [ng _ _ (by decide)]; exact h3, by rw [ng _ _ (by decide)]; exact h4⟩, fun j j0 j1 => ?_, fun i j i0 ij j1 => ?_, by omega, by omega⟩, hz1, r, o⟩
  · rw [ze_X2_dropOldest, if_pos h1, h2, if_pos h3, h4, if_neg (show ¬ (8 : Int) < 1 by decide), if_pos h1, if_pos (show c (H + 1) (-1) = 118 ∧ (0 : Int) ≤ 0 ∧ (0 : Int) < 8 from ⟨h3, by decide, by decide⟩), hh, hc]
  · obtain ⟨i, i0, i1, e⟩ := rr j j0 j1
    have q := h5 i i0 i1
    rw [e]
    exact ⟨q.1, q.2.same (fun b b1 b2 k => o b (by omega) (by omega) k)⟩
  · rw [r i i0 (by omega)]
    by_cases e : j < 7
    · rw [r j (by omega) e]; exact h6 _ _ (by omega) (by omega) (by omega)
    · rw [show j = 7 by omega, r7]
      exact fun q => h6 0 (i + 1) (by omega) (by omega) (by omega) q.symm
theorem zs_H_keep16 (h : LHis c H) (hr : HRul c H) (hn : c H 1 < 8) (hS : LState c S) (hR : RulesOK c S) (hd : S + 38 ≤ H ∨ H + 306 ≤ S) (F : Nat) : ∃ c', zex zc_X2_keep zk_X2_keep (zrun zTab (d + 3)) (F + 1) 16 [(2, H), (2, S), (3, 0)] [] c = some (0, c') ∧ HFr c c' H ∧ LHis c' H ∧ HRul c' H ∧ c' H 1 = c H 1 + 1 ∧ (∀ j, 0 ≤ j → j < c H 1 → hv c' H j = hv c H j) ∧ hv c' H (c H 1) = cview c S := by
  obtain ⟨h0, h1, h2, ⟨h3, h4⟩, h5, h6, h7⟩ := h
  have q := h5 (c H 1) h7.1 hn
  obtain ⟨c2, r1, r2, r3, r4, r5⟩ := zs_T_copyFrom d q.2 hS (by omega)
  have hrow : ∀ k, c2 (H + 1) k = c (H + 1) k := fun k => r2 _ (by omega) k
  have hrH : ∀ k, c2 H k = c H k := fun k => r2 _ (by omega) k
  have o : ∀ b, b ≠ H → ∀ k, zup c2 H 1 (c H 1 + 1) b k = c2 b k := fun b hb k => zup_ne (by omega)
  have hoth : ∀ j, 0 ≤ j → j < 8 → j ≠ c H 1 → zsameS c (zup c2 H 1 (c H 1 + 1)) (c (H + 1) j) := fun j j0 j1 j2 b b1 b2 k => by
    have qj := (h5 j j0 j1).1
    have hne : c (H + 1) j ≠ c (H + 1) (c H 1) := by
      by_cases e : j < c H 1
      · exact h6 _ _ j0 e hn
      · exact fun q => h6 (c H 1) j h7.1 (by omega) j1 q.symm
    rw [o b (by omega), r2 b (by omega) k]
  have hself : zsameS c2 (zup c2 H 1 (c H 1 + 1)) (c (H + 1) (c H 1)) := fun b b1 b2 k => o b (by omega) k
  refine ⟨zup c2 H 1 (c H 1 + 1), ?_, ⟨fun b hb k => by rw [o b (by omega), r2 b (by omega) k], fun b k hk => by rw [zup_ne (by omega), r3 b k hk]⟩, ⟨h0, by rw [zup_ne (by omega), hrH]; exact h1, by rw [zup_ne (by omega), hrH]; exact h2, ⟨by rw [o _ (by omega), hrow]; exact h3, by rw [o _ (by omega), hrow]; exact h4⟩, fun j j0 j1 => ?_, fun i j i0 ij j1 => ?_, by rw [zup_eq ⟨rfl, rfl⟩]; omega, by rw [zup_eq ⟨rfl, rfl⟩]; omega⟩, fun j j0 j1 => ?_, zup_eq ⟨rfl, rfl⟩, fun j j0 j1 => ?_, ?_⟩
  · rw [ze_X2_keep_16, if_pos h1, if_neg (by omega), if_pos h1, if_pos h1, h2, if_pos h3, h4, if_pos hn, if_pos h1, if_pos h1, if_pos (show c (H + 1) (-1) = 118 ∧ (0 : Int) ≤ c H 1 ∧ c H 1 < 8 from ⟨h3, h7.1, hn⟩), if_neg (by omega), if_pos q.2.2.1, r1, zbnd_some, r3 _ _ (by decide), if_pos h1, if_pos h1, hrH, zadd_id (by omega) (by omega)]
  · rw [o _ (by omega), hrow]
    by_cases e : j = c H 1
    · subst e
      exact ⟨q.1, r4.same hself⟩
    · exact ⟨(h5 j j0 j1).1, (h5 j j0 j1).2.same (hoth j j0 j1 e)⟩
  · rw [o _ (by omega), o _ (by omega), hrow, hrow]; exact h6 i j i0 ij j1
  · rw [zup_eq ⟨rfl, rfl⟩] at j1
    rw [o _ (by omega), hrow]
    by_cases e : j = c H 1
    · subst e
      exact RulesOK.same r4 (r5.rules hR) hself
    · exact RulesOK.same (h5 j j0 (by omega)).2 (hr j j0 (by omega)) (hoth j j0 (by omega) e)
  · unfold hv
    rw [o _ (by omega), hrow]
    exact cview_same (h5 j j0 (by omega)).2 (hoth j j0 (by omega) (by omega))
  · unfold hv
    rw [o _ (by omega), hrow, cview_same r4 hself]
    exact r5.view hS
theorem zs_H_keep (h : LHis c H) (hr : HRul c H) (hS : LState c S) (hR : RulesOK c S) (hd : S + 38 ≤ H ∨ H + 306 ≤ S) : ∃ c', zrun zTab (d + 4) 11 [H, S] c = some (0, c') ∧ HFr c c' H ∧ LHis c' H ∧ HRul c' H ∧ c' H 1 = (if c H 1 < 8 then c H 1 + 1 else 8) ∧ (∀ j, 0 ≤ j → j < c' H 1 - 1 → hv c' H j = hv c H (if c H 1 < 8 then j else j + 1)) ∧ hv c' H (c' H 1 - 1) = cview c S := by
  have hh := h
  obtain ⟨h0, h1, h2, ⟨h3, h4⟩, h5, h6, h7⟩ := h
  rw [ze_X2_keep, if_pos h1, if_pos h1, h2, if_pos h3, h4]
  by_cases e : c H 1 < 8
  · obtain ⟨c', r1, r2, r3, r4, r5, r6, r7⟩ := zs_H_keep16 d hh hr e hS hR hd 19998
    rw [if_pos e]
    refine ⟨c', r1, r2, r3, r4, by rw [r5, if_pos e], fun j j0 j1 => ?_, by rw [r5, show c H 1 + 1 - 1 = c H 1 by omega]; exact r7⟩
    rw [if_pos e]
    exact r6 j j0 (by omega)
  · rw [if_neg e, if_pos h1]
    obtain ⟨c1, q1, q2, q3, q4, q5, q6⟩ := zs_H_drop (d + 2) hh
    have sS : zsameS c c1 S := fun b b1 b2 k => q2.1 b (by omega) k
    have sj : ∀ j, 0 ≤ j → j < 8 → zsameS c c1 (c (H + 1) j) := fun j j0 j1 b b1 b2 k => by
      have := (h5 j j0 j1).1
      exact q6 b (by omega) (by omega) k
    obtain ⟨c', r1, r2, r3, r4, r5, r6, r7⟩ := zs_H_keep16 d q3 (fun j j0 j1 => by
      rw [q4] at j1
      rw [q5 j j0 j1]
      exact RulesOK.same (h5 (j + 1) (by omega) (by omega)).2 (hr (j + 1) (by omega) (by omega)) (sj (j + 1) (by omega) (by omega))) (by omega) (hS.same sS) (RulesOK.same hS hR sS) hd 19998
    rw [q1, zbnd_some]
    refine ⟨c', r1, ⟨fun b hb k => (r2.1 b hb k).trans (q2.1 b hb k), fun b k hk => (r2.2 b k hk).trans (q2.2 b k hk)⟩, r3, r4, by rw [r5, if_neg e, q4]; rfl, fun j j0 j1 => ?_, ?_⟩
    · rw [if_neg e, r6 j j0 (by omega)]
      unfold hv
      rw [q5 j j0 (by omega)]
      exact cview_same (h5 (j + 1) (by omega) (by omega)).2 (sj (j + 1) (by omega) (by omega))
    · rw [r5, show c1 H 1 + 1 - 1 = c1 H 1 by omega, r7]
      exact cview_same hS sS
theorem zs_H_take (h : LHis c H) (hr : HRul c H) (hn : 1 ≤ c H 1) (hS : LState c S) (hd : S + 38 ≤ H ∨ H + 306 ≤ S) : ∃ c', zrun zTab (d + 4) 13 [H, S] c = some (0, c') ∧ (∀ b, b ≠ H → (b < S ∨ S + 38 ≤ b) → ∀ k, c' b k = c b k) ∧ (∀ b k, k < 0 → c' b k = c b k) ∧ LHis c' H ∧ HRul c' H ∧ c' H 1 = c H 1 - 1 ∧ (∀ j, 0 ≤ j → j < 8 → hv c' H j = hv c H j) ∧ LState c' S ∧ RulesOK c' S ∧ cview c' S = hv c H (c H 1 - 1) := by
  obtain ⟨h0, h1, h2, ⟨h3, h4⟩, h5, h6, h7⟩ := h
  have hS0 := hS.1
  have o : ∀ b, b ≠ H → ∀ k, zup c H 1 (c H 1 - 1) b k = c b k := fun b hb k => zup_ne (by omega)
  have q := h5 (c H 1 - 1) (by omega) (by omega)
  have sS : zsameS c (zup c H 1 (c H 1 - 1)) S := fun b b1 b2 k => o b (by omega) k
  have sF : zsameS c (zup c H 1 (c H 1 - 1)) (c (H + 1) (c H 1 - 1)) := fun b b1 b2 k => o b (by omega) k
  obtain ⟨c2, r1, r2, r3, r4, r5⟩ := zs_T_copyFrom d (hS.same sS) (q.2.same sF) (by omega)
  have hrow : ∀ k, c2 (H + 1) k = c (H + 1) k := fun k => by rw [r2 _ (by omega) k, o _ (by omega)]
  have sj : ∀ j, 0 ≤ j → j < 8 → zsameS c c2 (c (H + 1) j) := fun j j0 j1 b b1 b2 k => by
    have := (h5 j j0 j1).1
    rw [r2 b (by omega) k, o b (by omega)]
  have e1 : zup c H 1 (c H 1 - 1) H 1 = c H 1 - 1 := zup_eq ⟨rfl, rfl⟩
  have e0 : ∀ k, k ≠ 1 → zup c H 1 (c H 1 - 1) H k = c H k := fun k hk => zup_ne (by omega)
  refine ⟨c2, ?_, fun b b1 b2 k => by rw [r2 b b2 k, o b b1], fun b k hk => by rw [r3 b k hk, zup_ne (by omega)], ⟨h0, by rw [r2 H (by omega), e0 _ (by decide)]; exact h1, by rw [r2 H (by omega), e0 _ (by decide)]; exact h2, ⟨by rw [hrow]; exact h3, by rw [hrow]; exact h4⟩, fun j j0 j1 => by rw [hrow]; exact ⟨(h5 j j0 j1).1, (h5 j j0 j1).2.same (sj j j0 j1)⟩, fun i j i0 ij j1 => by rw [hrow, hrow]; exact h6 i j i0 ij j1, by rw [r2 H (by omega), e1]; omega, by rw [r2 H (by omega), e1]; omega⟩, fun j j0 j1 => ?_, by rw [r2 H (by omega), e1], fun j j0 j1 => ?_, r4, r5.rules (RulesOK.same q.2 (hr _ (by omega) (by omega)) sF), ?_⟩
  · rw [ze_X2_takeLatest, if_neg (by omega), if_pos h1, if_neg (by omega), if_pos h1, if_pos h1, h2, if_pos h3, h4, if_pos (by omega), if_pos h1, if_pos h1, zsub_id (by omega) (by omega), e0 _ (by decide), if_pos h1, if_pos h1, e0 0 (by decide), h2, o _ (by omega), e1, o _ (by omega), if_pos (show c (H + 1) (-1) = 118 ∧ (0 : Int) ≤ c H 1 - 1 ∧ c H 1 - 1 < c (H + 1) (-2) from ⟨h3, by omega, by rw [h4]; omega⟩), o S (by omega), if_pos hS.2.1, o _ (by omega), r1, zbnd_some]
  · rw [r2 H (by omega), e1] at j1
    rw [hrow]
    exact RulesOK.same (h5 j j0 (by omega)).2 (hr j j0 (by omega)) (sj j j0 (by omega))
  · unfold hv
    rw [hrow]
    exact cview_same (h5 j j0 j1).2 (sj j j0 j1)
  · rw [r5.view (q.2.same sF)]
    exact cview_same q.2 sF
end
