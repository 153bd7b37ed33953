/-! The reference: bases, letter by letter. -/
theorem mwf_ge {n : Nat} {w : Int} (h : mwf (n + 1) w) : 32 ^ n ≤ w := by
  induction n generalizing w with
  | zero => have := mwf_pos h; simpa using this
  | succ n ih =>
    have h2 := ih h.1
    have := mwf_nn h
    rw [Int.pow_succ]
    omega
theorem zenc_eq_iff {f g : Int → Int} {a b : Int} {n m : Nat} (hf : zlet f a n) (hg : zlet g b m) : zenc f a n = zenc g b m ↔ n = m ∧ ∀ k : Nat, k < n → f (a + k) = g (b + k) := by
  constructor
  · intro h
    have e : n = m := mwf_inj (zenc_wf hf) (by rw [h]; exact zenc_wf hg)
    subst e
    exact ⟨rfl, zenc_inj hf hg h⟩
  · rintro ⟨rfl, h⟩
    exact zenc_congr h
/-- the places from a on of a row are places -/
def RowOK (c : zC) (R a : Int) (n : Int) : Prop := (0 ≤ a ∧ a < 20000) ∧ ∀ k : Int, 0 ≤ k → k < n → c R (-1) = 100 ∧ (0 : Int) ≤ a + k ∧ a + k < c R (-2)
/-- word i of a page has these bases -/
def MBs (c : zC) (i : Int) (l : zBL) : Prop := c 686 i = (l.length : Int) ∧ ∀ b : Nat, b < l.length → ∃ n : Nat, (1 ≤ n ∧ n ≤ 10) ∧ c 688 (43 * i + b) = n ∧ c 687 (43 * i + b) = (l.getD b (0, 0)).2 ∧ zlet (c 689) (10 * (43 * i + b)) n ∧ zenc (c 689) (10 * (43 * i + b)) n = (l.getD b (0, 0)).1
/-- only the bases of word i have changed -/
def BFm (c c' : zC) (i : Int) : Prop := MS c c' ∧ (∀ b, (b < 686 ∨ 689 < b) → ∀ k, c' b k = c b k) ∧ (∀ k, k ≠ i → c' 686 k = c 686 k) ∧ (∀ k, (k < 43 * i ∨ 43 * i + 43 ≤ k) → c' 687 k = c 687 k ∧ c' 688 k = c 688 k) ∧ ∀ k, (k < 430 * i ∨ 430 * i + 430 ≤ k) → c' 689 k = c 689 k
theorem BFm.rf (c : zC) (i : Int) : BFm c c i := ⟨MS.rf c, fun _ _ _ => rfl, fun _ _ => rfl, fun _ _ => ⟨rfl, rfl⟩, fun _ _ => rfl⟩
theorem BFm.tr {c c1 c2 : zC} {i : Int} (h : BFm c c1 i) (g : BFm c1 c2 i) : BFm c c2 i :=
  ⟨h.1.tr g.1, fun b hb k => (g.2.1 b hb k).trans (h.2.1 b hb k), fun k hk => (g.2.2.1 k hk).trans (h.2.2.1 k hk), fun k hk => ⟨(g.2.2.2.1 k hk).1.trans (h.2.2.2.1 k hk).1, (g.2.2.2.1 k hk).2.trans (h.2.2.2.1 k hk).2⟩, fun k hk => (g.2.2.2.2 k hk).trans (h.2.2.2.2 k hk)⟩
theorem MBs.fr {c c' : zC} {i j : Int} {l : zBL} (h : MBs c j l) (g : BFm c c' i) (hij : j ≠ i) (hl : l.length ≤ 43) : MBs c' j l := by
  refine ⟨by rw [g.2.2.1 j hij]; exact h.1, fun b hb => ?_⟩
  obtain ⟨n, n1, n2, n3, n4, n5⟩ := h.2 b hb
  have e : ∀ k : Nat, k < n → c' 689 (10 * (43 * j + b) + k) = c 689 (10 * (43 * j + b) + k) := fun k hk => g.2.2.2.2 _ (by omega)
  exact ⟨n, n1, by rw [(g.2.2.2.1 _ (by omega)).2]; exact n2, by rw [(g.2.2.2.1 _ (by omega)).1]; exact n3, zlet_congr n4 e, by rw [zenc_congr e]; exact n5⟩
/-- the bases are the same where their rows are -/
theorem MBs.same {c c' : zC} {j : Int} {l : zBL} (h : MBs c j l) (g : ∀ b, 686 ≤ b → b ≤ 689 → ∀ k, c' b k = c b k) : MBs c' j l := by
  have e : ∀ b, 686 ≤ b → b ≤ 689 → c' b = c b := fun b b0 b1 => funext (g b b0 b1)
  unfold MBs
  rw [e 686 (by decide) (by decide), e 687 (by decide) (by decide), e 688 (by decide) (by decide), e 689 (by decide) (by decide)]
  exact h
section
variable {c : zC} {i b a R : Int} {n : Nat} (d : Nat)
theorem zm_isBase_l (h : MO c) (hi : 0 ≤ i ∧ i < 20) (hb : 0 ≤ b ∧ b < 43) (hn : n ≤ 10) (hR : RowOK c R a n) : ∀ (t F k : Nat), t ≤ F → k + t = n → ∃ v, zex zc_X12_isBase zk_X12_isBase (zrun zTab d) (F + 1) 26 [(2, 681), (0, i), (0, b), (2, R), (0, a), (0, (n : Int)), (0, 1), (0, (k : Int))] [] c = some (v, c) ∧ (v = 1 ∧ (∀ j : Nat, k ≤ j → j < n → c 689 (10 * (43 * i + b) + j) = c R (a + j)) ∨ v = 0 ∧ ∃ j : Nat, k ≤ j ∧ j < n ∧ c 689 (10 * (43 * i + b) + j) ≠ c R (a + j)) := by
  intro t
  induction t with
  | zero =>
    intro F k hF hk
    refine ⟨1, ?_, Or.inl ⟨rfl, fun j j0 j1 => by omega⟩⟩
    rw [ze_X12_isBase_26, if_neg (by omega), if_pos (Or.inr rfl)]
  | succ t ih =>
    intro F k hF hk
    obtain ⟨F, rfl⟩ : ∃ G, F = G + 1 := ⟨F - 1, by omega⟩
    have ha := hR.1
    have e1 : zadd (zmul 10 (zadd (zmul 43 i) b)) (k : Int) = 10 * (43 * i + b) + k := by
      rw [zmul_id (x := 43) (by omega) (by omega), zadd_id (x := 43 * i) (by omega) (by omega), zmul_id (by omega) (by omega), zadd_id (by omega) (by omega)]
    rw [ze_X12_isBase_26, if_pos (by omega), if_neg (by decide), if_pos h.k, h.f.2.2.2.2.2.2.2.1, e1, if_pos (h.r689 (by omega) (by omega)), zadd_id (by omega) (by omega), if_pos (hR.2 k (by omega) (by omega)), zw_id' (by omega) (by omega), show (k : Int) + 1 = ((k + 1 : Nat) : Int) by omega]
    by_cases e : c 689 (10 * (43 * i + b) + k) = c R (a + k)
    · rw [if_pos e]
      obtain ⟨v, v1, v2⟩ := ih F (k + 1) (by omega) (by omega)
      refine ⟨v, v1, ?_⟩
      rcases v2 with ⟨v2, v3⟩ | ⟨v2, j, v3, v4, v5⟩
      · refine Or.inl ⟨v2, fun j j0 j1 => ?_⟩
        by_cases x : j = k
        · subst x; exact e
        · exact v3 j (by omega) j1
      · exact Or.inr ⟨v2, j, by omega, v4, v5⟩
    · rw [if_neg e]
      refine ⟨0, ?_, Or.inr ⟨rfl, k, Nat.le_refl k, by omega, e⟩⟩
      rw [ze_X12_isBase_26]
      by_cases x : ((k + 1 : Nat) : Int) < (n : Int)
      · rw [if_pos x, if_pos rfl, if_pos (Or.inl rfl)]
      · rw [if_neg x, if_pos (Or.inl rfl)]
theorem zm_isBase {nb : Nat} (h : MO c) (hi : 0 ≤ i ∧ i < 20) (hb : 0 ≤ b ∧ b < 43) (hn : n ≤ 10) (hR : RowOK c R a n) (hl : c 688 (43 * i + b) = nb) (hz : zlet (c 689) (10 * (43 * i + b)) nb) (hw : zlet (c R) a n) : zrun zTab (d + 1) 175 [681, i, b, R, a, (n : Int)] c = some (if zenc (c 689) (10 * (43 * i + b)) nb = zenc (c R) a n then 1 else 0, c) := by
  have q := zenc_eq_iff hz hw
  rw [ze_X12_isBase, if_pos h.k, h.f.2.2.2.2.2.2.1, zmul_id (by omega) (by omega), zadd_id (by omega) (by omega), if_pos (h.r688 (by omega) (by omega)), hl]
  by_cases e : (nb : Int) = (n : Int)
  · have e2 : nb = n := by omega
    subst e2
    obtain ⟨v, v1, v2⟩ := zm_isBase_l d h hi hb hn hR nb 19998 0 (by omega) (by omega)
    rw [if_pos rfl]
    have v1 : zex zc_X12_isBase zk_X12_isBase (zrun zTab d) 19999 26 [(2, 681), (0, i), (0, b), (2, R), (0, a), (0, (nb : Int)), (0, 1), (0, 0)] [] c = some (v, c) := v1
    rw [v1]
    rcases v2 with ⟨rfl, v3⟩ | ⟨rfl, j, v3, v4, v5⟩
    · rw [if_pos (q.mpr ⟨rfl, fun k hk => v3 k (by omega) hk⟩)]
    · rw [if_neg (fun x => v5 ((q.mp x).2 j v4))]
  · rw [if_neg e, if_neg (fun x => e (by have := (q.mp x).1; omega)), ze_X12_isBase_26]
    by_cases x : (0 : Int) < (n : Int)
    · rw [if_pos x, if_pos rfl, if_pos (Or.inl rfl)]
    · rw [if_neg x, if_pos (Or.inl rfl)]
/-- letters copied to a base's place -/
def zcpl (c : zC) (R a P n : Int) : zC := fun x k => if x = 689 ∧ P ≤ k ∧ k < P + n then c R (a + (k - P)) else c x k
theorem zcpl_o {P m x k : Int} (h : x ≠ 689 ∨ k < P ∨ P + m ≤ k) : zcpl c R a P m x k = c x k := by unfold zcpl; rw [if_neg (by omega)]
theorem zcpl_i {P m k : Int} (h : 0 ≤ k) (h1 : k < m) : zcpl c R a P m 689 (P + k) = c R (a + k) := by unfold zcpl; rw [if_pos ⟨rfl, by omega, by omega⟩, show P + k - P = k by omega]
theorem zcpl_up {P m : Int} (h : 0 ≤ m) : zup (zcpl c R a P m) 689 (P + m) (c R (a + m)) = zcpl c R a P (m + 1) := by
  funext x k
  unfold zcpl
  by_cases e : x = 689 ∧ k = P + m
  · rw [zup_eq e, if_pos (by omega), e.2, show P + m - P = m by omega]
  · rw [zup_ne (by omega)]
    by_cases e2 : x = 689 ∧ P ≤ k ∧ k < P + m
    · rw [if_pos e2, if_pos (by omega)]
    · rw [if_neg e2, if_neg (by omega)]
theorem zcpl_ms {P m : Int} (h : 0 ≤ P) : MS c (zcpl c R a P m) := ⟨fun x k hk => zcpl_o (by omega), fun k hk => zcpl_o (Or.inl (by decide))⟩
theorem zm_lays_79 (h : MO c) (hR : RowOK c R a n) (hR2 : R ≠ 689) (hn : n ≤ 10) {P : Int} (hP : 0 ≤ P ∧ P < 860) : ∀ (t F k : Nat), t ≤ F → k + t = n → zex zc_X12_lays zk_X12_lays (zrun zTab d) (F + 1) 79 [(2, 681), (3, 0), (2, R), (0, a), (0, (n : Int)), (3, 0), (0, P), (0, (k : Int))] [] (zcpl c R a (10 * P) k) = some (0, zcpl c R a (10 * P) n) := by
  intro t
  induction t with
  | zero =>
    intro F k hF hk
    rw [ze_X12_lays_79, if_neg (by omega), show k = n by omega]
  | succ t ih =>
    intro F k hF hk
    obtain ⟨F, rfl⟩ : ∃ G, F = G + 1 := ⟨F - 1, by omega⟩
    have m := h.ms (zcpl_ms (R := R) (a := a) (P := 10 * P) (m := (k : Int)) (by omega))
    have ha := hR.1
    have q := hR.2 k (by omega) (by omega)
    rw [ze_X12_lays_79, if_pos (by omega), if_pos m.k, zadd_id (by omega) (by omega), zcpl_o (x := R) (k := -1) (Or.inl hR2), zcpl_o (x := R) (k := -2) (Or.inl hR2), if_pos q, m.f.2.2.2.2.2.2.2.1, zmul_id (by omega) (by omega), zadd_id (by omega) (by omega), if_pos (m.r689 (by omega) (by omega)), zcpl_o (x := R) (Or.inl hR2), zcpl_up (by omega), zw_id' (by omega) (by omega), show (k : Int) + 1 = ((k + 1 : Nat) : Int) by omega]
    exact ih F (k + 1) (by omega) (by omega)
theorem zm_lays {l : zBL} {v : Int} (h : MO c) (hi : 0 ≤ i ∧ i < 20) (hl : MBs c i l) (hn : 1 ≤ n ∧ n ≤ 10) (hR : RowOK c R a n) (hR2 : R < 686 ∨ 689 < R) (hw : zlet (c R) a n) (hcap : (madd l (zenc (c R) a n) v).length ≤ 43) : ∃ c', zrun zTab (d + 2) 176 [681, i, R, a, (n : Int), v] c = some (0, c') ∧ MBs c' i (madd l (zenc (c R) a n) v) ∧ BFm c c' i := by
  have w0 : zenc (c R) a n ≠ 0 := by
    obtain ⟨m, rfl⟩ : ∃ m, n = m + 1 := ⟨n - 1, by omega⟩
    have := mwf_pos (zenc_wf hw); omega
  unfold madd at hcap ⊢
  rw [if_neg w0] at hcap ⊢
  have len : l.length ≤ 43 := by
    split at hcap
    · exact hcap
    · rw [List.length_append] at hcap; omega
  have key : ∀ (t F b : Nat), t ≤ F → b + t = l.length → (mhas (l.drop b) (zenc (c R) a n) = mhas l (zenc (c R) a n)) → ∃ c', zex zc_X12_lays zk_X12_lays (zrun zTab (d + 1)) (F + 1 + 1) 3 [(2, 681), (0, i), (2, R), (0, a), (0, (n : Int)), (0, v), (0, (b : Int)), (3, 0)] [] c = (if mhas l (zenc (c R) a n) = true then some (0, c) else zex zc_X12_lays zk_X12_lays (zrun zTab (d + 1)) (F + 1 - t + 1) 3 [(2, 681), (0, i), (2, R), (0, a), (0, (n : Int)), (0, v), (0, (l.length : Int)), (3, 0)] [] c') ∧ c' = c := by
    intro t
    induction t with
    | zero =>
      intro F b hF hb hm
      refine ⟨c, ?_, rfl⟩
      obtain rfl : b = l.length := by omega
      rw [List.drop_length] at hm
      rw [← hm, if_neg (show ¬ mhas [] (zenc (c R) a n) = true from fun x => Bool.noConfusion (show false = true from x))]
      rfl
    | succ t ih =>
      intro F b hF hb hm
      obtain ⟨F, rfl⟩ : ∃ G, F = G + 1 := ⟨F - 1, by omega⟩
      have hbl : b < l.length := by omega
      obtain ⟨nb, n1, n2, n3, n4, n5⟩ := hl.2 b hbl
      rw [mhas_drop hbl] at hm
      rw [ze_X12_lays_3, if_pos h.k, h.f.2.2.2.2.1, if_pos (h.r686 hi.1 hi.2), hl.1, if_pos (by omega), if_pos h.k, zm_isBase d h hi (by omega) hn.2 hR n2 n4 hw, zbnd_some, n5]
      by_cases e : (l.getD b (0, 0)).1 = zenc (c R) a n
      · rw [if_pos e, if_neg (by decide)]
        rw [decide_eq_true e, Bool.true_or] at hm
        exact ⟨c, by rw [← hm, if_pos rfl], rfl⟩
      · rw [if_neg e, if_pos rfl, zw_id' (by omega) (by omega), show (b : Int) + 1 = ((b + 1 : Nat) : Int) by omega]
        rw [decide_eq_false e, Bool.false_or] at hm
        obtain ⟨c', q1, q2⟩ := ih F (b + 1) (by omega) (by omega) hm
        exact ⟨c', by rw [q1, show F + 1 - t + 1 = F + 1 + 1 - (t + 1) + 1 by omega], q2⟩
  rw [ze_X12_lays]
  obtain ⟨c1, q1, rfl⟩ := key l.length 19997 0 (by omega) (by omega) (by rw [List.drop_zero])
  have q1 : zex zc_X12_lays zk_X12_lays (zrun zTab (d + 1)) 19999 3 [(2, 681), (0, i), (2, R), (0, a), (0, (n : Int)), (0, v), (0, 0), (3, 0)] [] c1 = _ := q1
  rw [q1]
  by_cases e : mhas l (zenc (c1 R) a n) = true
  · rw [if_pos e, if_pos e]
    exact ⟨c1, rfl, hl, BFm.rf c1 i⟩
  · rw [if_neg e, if_neg e]
    rw [if_neg e, List.length_append] at hcap
    have hcap : l.length + 1 ≤ 43 := hcap
    have hR' := hR.1
    have ms1 : MS c1 (zup c1 686 i ((l.length : Int) + 1)) := (MS.rf _).up hi.1 (Or.inl (by decide))
    have ms2 : MS c1 (zup (zup c1 686 i ((l.length : Int) + 1)) 687 (43 * i + l.length) v) := ms1.up (by omega) (Or.inl (by decide))
    have ms3 : MS c1 (zup (zup (zup c1 686 i ((l.length : Int) + 1)) 687 (43 * i + l.length) v) 688 (43 * i + l.length) n) := ms2.up (by omega) (Or.inl (by decide))
    have m1 := h.ms ms1
    have m2 := h.ms ms2
    have m3 := h.ms ms3
    have eR : ∀ k, zup (zup (zup c1 686 i ((l.length : Int) + 1)) 687 (43 * i + l.length) v) 688 (43 * i + l.length) n R k = c1 R k := fun k => by rw [zup_ne (by omega), zup_ne (by omega), zup_ne (by omega)]
    have hR3 : RowOK (zup (zup (zup c1 686 i ((l.length : Int) + 1)) 687 (43 * i + l.length) v) 688 (43 * i + l.length) n) R a n := ⟨hR.1, fun k k0 k1 => by rw [eR, eR]; exact hR.2 k k0 k1⟩
    have run := zm_lays_79 (d + 1) m3 hR3 (by omega) hn.2 (P := 43 * i + l.length) (by omega) n (19997 + 1 - l.length - 1) 0 (by omega) (by omega)
    have z0 : ∀ c : zC, zcpl c R a (10 * (43 * i + l.length)) ((0 : Nat) : Int) = c := fun c => by funext x k; unfold zcpl; rw [if_neg (by omega)]
    rw [z0] at run
    rw [ze_X12_lays_3, if_pos h.k, h.f.2.2.2.2.1, if_pos (h.r686 hi.1 hi.2), hl.1, if_neg (by omega), if_pos h.k, if_pos (h.r686 hi.1 hi.2), if_pos h.k, if_pos (h.r686 hi.1 hi.2), if_pos (h.r686 hi.1 hi.2), zadd_id (by omega) (by omega), if_pos m1.k, m1.f.2.2.2.2.2.1, zmul_id (by omega) (by omega), zadd_id (by omega) (by omega), if_pos (m1.r687 (by omega) (by omega)), if_pos m2.k, m2.f.2.2.2.2.2.2.1, if_pos (m2.r688 (by omega) (by omega))]
    have eF : 19997 + 1 - l.length = 19997 + 1 - l.length - 1 + 1 := by omega
    rw [eF]
    refine ⟨_, run, ?_, ?_⟩
    · have o : ∀ b : Nat, b < l.length → ∀ nb : Nat, nb ≤ 10 → ∀ k : Nat, k < nb → zcpl (zup (zup (zup c1 686 i ((l.length : Int) + 1)) 687 (43 * i + l.length) v) 688 (43 * i + l.length) n) R a (10 * (43 * i + l.length)) n 689 (10 * (43 * i + b) + k) = c1 689 (10 * (43 * i + b) + k) := fun b hb nb hnb k hk => by rw [zcpl_o (by omega), zup_ne (by omega), zup_ne (by omega), zup_ne (by omega)]
      refine ⟨?_, fun b hb => ?_⟩
      · rw [zcpl_o (by omega), zup_ne (by omega), zup_ne (by omega), zup_eq ⟨rfl, rfl⟩, List.length_append]
        rfl
      · rw [List.length_append] at hb
        have hb : b < l.length + 1 := hb
        by_cases x : b < l.length
        · obtain ⟨nb, n1, n2, n3, n4, n5⟩ := hl.2 b x
          rw [zgetD_app x]
          refine ⟨nb, n1, ?_, ?_, zlet_congr n4 (o b x nb n1.2), by rw [zenc_congr (o b x nb n1.2)]; exact n5⟩
          · rw [zcpl_o (by omega), zup_ne (by omega), zup_ne (by omega), zup_ne (by omega)]; exact n2
          · rw [zcpl_o (by omega), zup_ne (by omega), zup_ne (by omega), zup_ne (by omega)]; exact n3
        · obtain rfl : b = l.length := by omega
          have eg : (l ++ [(zenc (c1 R) a n, v)]).getD l.length (0, 0) = (zenc (c1 R) a n, v) := by simp
          rw [eg]
          have ec : ∀ k : Nat, k < n → zcpl (zup (zup (zup c1 686 i ((l.length : Int) + 1)) 687 (43 * i + l.length) v) 688 (43 * i + l.length) n) R a (10 * (43 * i + l.length)) n 689 (10 * (43 * i + l.length) + k) = c1 R (a + k) := fun k hk => by rw [zcpl_i (by omega) (by omega), eR]
          refine ⟨n, hn, ?_, ?_, zlet_congr hw ec, zenc_congr ec⟩
          · rw [zcpl_o (by omega), zup_eq ⟨rfl, rfl⟩]
          · rw [zcpl_o (by omega), zup_ne (by omega), zup_eq ⟨rfl, rfl⟩]
    · refine ⟨ms3.tr (zcpl_ms (by omega)), fun b hb k => ?_, fun k hk => ?_, fun k hk => ⟨?_, ?_⟩, fun k hk => ?_⟩
      · rw [zcpl_o (by omega), zup_ne (by omega), zup_ne (by omega), zup_ne (by omega)]
      · rw [zcpl_o (by omega), zup_ne (by omega), zup_ne (by omega), zup_ne (by omega)]
      · rw [zcpl_o (by omega), zup_ne (by omega), zup_ne (by omega), zup_ne (by omega)]
      · rw [zcpl_o (by omega), zup_ne (by omega), zup_ne (by omega), zup_ne (by omega)]
      · rw [zcpl_o (by omega), zup_ne (by omega), zup_ne (by omega), zup_ne (by omega)]
end
