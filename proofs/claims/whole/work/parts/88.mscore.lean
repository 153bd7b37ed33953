/-! The reference: heads and scores. -/
theorem zor_if {a : Int} {b u : Bool} : (if (if a = 1 ∨ b = true then (1 : Int) else 0) = 1 ∨ u = true then (1 : Int) else 0) = if a = 1 ∨ (u || b) = true then 1 else 0 := by
  by_cases x : a = 1 <;> cases b <;> cases u <;> simp [x]
theorem mhas_nil (w : Int) : ¬ mhas [] w = true := fun x => Bool.noConfusion (show false = true from x)
section
variable {c : zC} {p i s : Int} (d : Nat)
theorem RowOK.sub {R a n m : Int} (h : RowOK c R a n) (hm : m ≤ n) : RowOK c R a m := ⟨h.1, fun k k0 k1 => h.2 k k0 (by omega)⟩
/-- is a base of a word the word that stands at a place of the present row -/
theorem zm_isB {l : zBL} {b : Nat} {a : Int} (h : MO c) (hi : 0 ≤ i ∧ i < 20) (hl : MBs c i l) (hl2 : l.length ≤ 43) (hb : b < l.length) (ha : 0 ≤ a ∧ a + 12 ≤ 14820) (hw : mWd (c 682) a) : zrun zTab (d + 1) 175 [681, i, (b : Int), 682, a + 1, c 682 a] c = some (if (l.getD b (0, 0)).1 = mV (c 682) a then 1 else 0, c) := by
  obtain ⟨w1, w2, w3⟩ := hw
  obtain ⟨nb, n1, n2, n3, n4, n5⟩ := hl.2 b hb
  obtain ⟨n, hn⟩ : ∃ n : Nat, c 682 a = (n : Int) := ⟨(c 682 a).toNat, by omega⟩
  unfold mV
  rw [hn] at w1 w2 w3 ⊢
  rw [Int.toNat_natCast] at w3 ⊢
  rw [zm_isBase d h hi (by omega) (by omega) (RowOK.r682 (n := n) h (by omega) (by omega)) n2 n4 w3, n5]
theorem zm_isHead {l : zBL} {b : Nat} (h : MO c) (ok : MOK (c 682) 0) (hs : 0 ≤ s ∧ s < c 682 1023) (hi : 0 ≤ i ∧ i < 20) (hl : MBs c i l) (hl2 : l.length ≤ 43) (hb : b < l.length) : zrun zTab (d + 2) 178 [681, s, i, (b : Int)] c = some (if (l.getD b (0, 0)).1 = mview (c 682) 0 10 s then 1 else 0, c) := by
  have n9 := ok.n9
  have sn := ok.sn hs.1 hs.2
  rw [ze_X12_isHead, if_pos h.k, zm_senseAt d (by omega), zbnd_some, if_pos h.k, zm_senseAt d (by omega), zbnd_some, h.f.1, if_pos (h.r682 (by omega) (by omega)), if_pos h.k, zadd_id (by omega) (by omega), zm_isB d h hi hl hl2 hb (by omega) sn.1, zbnd_some, mw_10 hs.1 hs.2]
  by_cases e : (l.getD b (0, 0)).1 = mV (c 682) (1024 + 57 * s)
  · rw [if_pos e, if_pos (Or.inr rfl)]
  · rw [if_neg e, if_pos (Or.inl rfl)]
theorem zm_sc_63 {l : zBL} {x j sc : Int} (h : MO c) (ok : MOK (c 682) 0) (hs : 0 ≤ s ∧ s < c 682 1023) (hx : 0 ≤ x ∧ x < c 682 (1035 + 57 * s)) (hj : 0 ≤ j ∧ j < 20) (hl : MBs c j l) (hl2 : l.length ≤ 43) (p i : Int) : ∀ (t F b : Nat) (is : Int), t ≤ F → b + t = l.length → (is = 0 ∨ is = 1) → zex zc_X12_score zk_X12_score (zrun zTab (d + 2)) (F + 1) 63 [(2, 681), (0, p), (0, i), (0, s), (0, sc), (0, x), (0, is), (0, j), (0, (b : Int))] [] c = zex zc_X12_score zk_X12_score (zrun zTab (d + 2)) (F - t) 24 [(2, 681), (0, p), (0, i), (0, s), (0, sc), (0, x), (0, if is = 1 ∨ mhas (l.drop b) (mview (c 682) 0 12 (4 * s + x)) = true then 1 else 0), (0, j - 1), (3, 0)] [] c := by
  have n9 := ok.n9
  obtain ⟨-, sn2, sn3, -⟩ := ok.sn hs.1 hs.2
  rw [show 1024 + 57 * s + 11 = 1035 + 57 * s by omega] at sn2 sn3
  have wx := sn3 x hx.1 hx.2
  rw [show 1024 + 57 * s + 12 + 11 * x = 1036 + 57 * s + 11 * x by omega] at wx
  have ew : mview (c 682) 0 12 (4 * s + x) = mV (c 682) (1036 + 57 * s + 11 * x) := mw_12 hs.1 hs.2 hx.1 (by omega) hx.2
  intro t
  induction t with
  | zero =>
    intro F b is hF hb his
    rw [ze_X12_score_63, if_pos h.k, h.f.2.2.2.2.1, if_pos (h.r686 hj.1 hj.2), hl.1, if_neg (by omega), zw_id' (by omega) (by omega), show b = l.length by omega, List.drop_length, show j + -1 = j - 1 by omega]
    rcases his with rfl | rfl
    · rw [if_neg (fun q => q.elim (fun y => by omega) (mhas_nil _))]; rfl
    · rw [if_pos (Or.inl rfl)]; rfl
  | succ t ih =>
    intro F b is hF hb his
    obtain ⟨F, rfl⟩ : ∃ G, F = G + 1 := ⟨F - 1, by omega⟩
    have hbl : b < l.length := by omega
    rw [ze_X12_score_63, if_pos h.k, h.f.2.2.2.2.1, if_pos (h.r686 hj.1 hj.2), hl.1, if_pos (by omega), zw_id' (by omega) (by omega), show (b : Int) + 1 = ((b + 1 : Nat) : Int) by omega]
    have step : mhas (l.drop b) (mview (c 682) 0 12 (4 * s + x)) = (decide ((l.getD b (0, 0)).1 = mview (c 682) 0 12 (4 * s + x)) || mhas (l.drop (b + 1)) (mview (c 682) 0 12 (4 * s + x))) := mhas_drop hbl
    rcases his with rfl | rfl
    · have isb := zm_isB (d + 1) h hj hl hl2 hbl (a := 1036 + 57 * s + 11 * x) (by omega) wx
      rw [if_pos rfl, if_pos h.k, zm_hintAt d (by omega) (by omega), zbnd_some, if_pos h.k, zm_hintAt d (by omega) (by omega), zbnd_some, h.f.1, show 1024 + 57 * s + 12 + 11 * x = 1036 + 57 * s + 11 * x by omega, if_pos (h.r682 (by omega) (by omega)), if_pos h.k, zadd_id (by omega) (by omega), isb, zbnd_some]
      by_cases e : (l.getD b (0, 0)).1 = mV (c 682) (1036 + 57 * s + 11 * x)
      · rw [if_pos e, if_neg (by decide), ih F (b + 1) 1 (by omega) (by omega) (Or.inr rfl), if_pos (Or.inl rfl), step, ew, decide_eq_true e, Bool.true_or, if_pos (Or.inr rfl), show F - t = F + 1 - (t + 1) by omega]
      · rw [if_neg e, if_pos rfl, ih F (b + 1) 0 (by omega) (by omega) (Or.inl rfl), step, ew, decide_eq_false e, Bool.false_or, show F - t = F + 1 - (t + 1) by omega]
    · rw [if_neg (by decide), ih F (b + 1) 1 (by omega) (by omega) (Or.inr rfl), if_pos (Or.inl rfl), if_pos (Or.inl rfl), show F - t = F + 1 - (t + 1) by omega]
theorem zm_sc_24 {x sc : Int} (h : MO c) (ok : MOK (c 682) 0) (hp : isP p) (hs : 0 ≤ s ∧ s < c 682 1023) (hx : 0 ≤ x ∧ x < c 682 (1035 + 57 * s)) {i : Nat} (hi : (i : Int) < c 682 (242 * p)) (hB : ∀ j : Nat, j < i → MBs c j (mBL (mview (c 682) 0) p j)) (hsc : 0 ≤ sc ∧ sc < 1000) (f : Nat → Bool) (hf : ∀ j : Nat, f j = (decide ((i : Int) - mview (c 682) 0 14 0 ≤ (j : Int) ∧ mview (c 682) 0 2 (20 * p + j) = mview (c 682) 0 2 (20 * p + i)) && mhas (mBL (mview (c 682) 0) p j) (mview (c 682) 0 12 (4 * s + x)))) : ∀ (m F : Nat) (is : Int), m ≤ i → 46 * m + 1 ≤ F → (is = 0 ∨ is = 1) → ∃ G, F ≤ G + 46 * m + 1 ∧ G ≤ F ∧ zex zc_X12_score zk_X12_score (zrun zTab (d + 2)) (F + 1) 24 [(2, 681), (0, p), (0, (i : Int)), (0, s), (0, sc), (0, x), (0, is), (0, (m : Int) - 1), (3, 0)] [] c = zex zc_X12_score zk_X12_score (zrun zTab (d + 2)) G 6 [(2, 681), (0, p), (0, (i : Int)), (0, s), (0, sc + (if is = 1 ∨ (List.range m).any f = true then 1 else 0)), (0, x + 1), (3, 0), (3, 0), (3, 0)] [] c := by
  have pg := ok.pg hp
  have n20 := pg.1
  have w8 := ok.2.2.2.1
  rw [show (0 : Int) + 1480 = 1480 from rfl] at w8
  obtain ⟨-, sn2, -⟩ := ok.sn hs.1 hs.2
  rw [show 1024 + 57 * s + 11 = 1035 + 57 * s by omega] at sn2
  have e14 : mview (c 682) 0 14 0 = c 682 1480 := rfl
  have fin : ∀ (F : Nat) (is : Int) (b : Bool), (is = 0 ∨ is = 1) → (is = 0 → b = false) → (if is = 0 then zex zc_X12_score zk_X12_score (zrun zTab (d + 2)) F 6 [(2, 681), (0, p), (0, (i : Int)), (0, s), (0, zadd sc 0), (0, zw (x + 1)), (3, 0), (3, 0), (3, 0)] [] c else zex zc_X12_score zk_X12_score (zrun zTab (d + 2)) F 6 [(2, 681), (0, p), (0, (i : Int)), (0, s), (0, zadd sc 1), (0, zw (x + 1)), (3, 0), (3, 0), (3, 0)] [] c) = zex zc_X12_score zk_X12_score (zrun zTab (d + 2)) F 6 [(2, 681), (0, p), (0, (i : Int)), (0, s), (0, sc + (if is = 1 ∨ b = true then 1 else 0)), (0, x + 1), (3, 0), (3, 0), (3, 0)] [] c := fun F is b h1 h2 => by
    rcases h1 with rfl | rfl
    · rw [if_pos rfl, h2 rfl, if_neg (fun q => q.elim (fun y => by omega) (fun y => Bool.noConfusion y)), zadd_id (by omega) (by omega), zw_id' (by omega) (by omega)]
    · rw [if_neg (by decide), if_pos (Or.inl rfl), zadd_id (by omega) (by omega), zw_id' (by omega) (by omega)]
  have fin1 : ∀ (F : Nat) (b : Bool), (if (1 : Int) = 0 then zex zc_X12_score zk_X12_score (zrun zTab (d + 2)) F 6 [(2, 681), (0, p), (0, (i : Int)), (0, s), (0, zadd sc 0), (0, zw (x + 1)), (3, 0), (3, 0), (3, 0)] [] c else zex zc_X12_score zk_X12_score (zrun zTab (d + 2)) F 6 [(2, 681), (0, p), (0, (i : Int)), (0, s), (0, zadd sc 1), (0, zw (x + 1)), (3, 0), (3, 0), (3, 0)] [] c) = zex zc_X12_score zk_X12_score (zrun zTab (d + 2)) F 6 [(2, 681), (0, p), (0, (i : Int)), (0, s), (0, sc + (if (1 : Int) = 1 ∨ b = true then 1 else 0)), (0, x + 1), (3, 0), (3, 0), (3, 0)] [] c := fun F b => fin F 1 b (Or.inr rfl) (fun q => by omega)
  intro m
  induction m with
  | zero =>
    intro F is hm hF his
    refine ⟨F, by omega, by omega, ?_⟩
    rw [ze_X12_score_24, if_pos (by omega), fin F is ((List.range 0).any f) his (fun _ => rfl)]
  | succ m ih =>
    intro F is hm hF his
    obtain ⟨F, rfl⟩ : ∃ G, F = G + 1 := ⟨F - 1, by omega⟩
    have em : ((m + 1 : Nat) : Int) - 1 = (m : Int) := by omega
    have m20 : (m : Int) < 20 := by omega
    have s1 : mview (c 682) 0 2 (20 * p + m) = c 682 (242 * p + 2 + 12 * m) := mw_2 hp (by omega) m20 (by omega)
    have s2 : mview (c 682) 0 2 (20 * p + i) = c 682 (242 * p + 2 + 12 * i) := mw_2 hp (by omega) (by omega) (by omega)
    rw [em, ze_X12_score_24, if_neg (by omega), if_pos h.k, h.f.1, if_pos (h.r682 (by omega) (by omega)), zsub_id (by omega) (by omega)]
    by_cases e1 : (m : Int) < i - c 682 1480
    · have nany : (List.range (m + 1)).any f = false := zany_none (fun j hj => by
        rw [hf j, e14, decide_eq_false (fun q => by have := q.1; omega), Bool.false_and])
      refine ⟨F + 1, by omega, by omega, ?_⟩
      rw [if_pos e1, fin (F + 1) is ((List.range (m + 1)).any f) his (fun _ => nany)]
    · rw [if_neg e1, if_pos h.k, zm_sectionOf d h hp (by omega), zbnd_some, if_pos h.k, zm_sectionOf d h hp (by omega), zbnd_some]
      by_cases e2 : c 682 (242 * p + 2 + 12 * m) = c 682 (242 * p + 2 + 12 * i)
      · have cap := mbas_len (apV (mview (c 682) 0)) (rn := (mview (c 682) 0 4 0).toNat) (mview (c 682) 0 3 (20 * p + m)) (by have := ok.n4; have : mview (c 682) 0 4 0 = c 682 968 := rfl; omega)
        have cap : (mBL (mview (c 682) 0) p m).length ≤ 43 := cap
        have q := zm_sc_63 d (sc := sc) h ok hs hx (j := (m : Int)) (by omega) (hB m (by omega)) cap p i (mBL (mview (c 682) 0) p m).length F 0 is (by omega) (by omega) his
        have q : zex zc_X12_score zk_X12_score (zrun zTab (d + 2)) (F + 1) 63 [(2, 681), (0, p), (0, (i : Int)), (0, s), (0, sc), (0, x), (0, is), (0, (m : Int)), (0, 0)] [] c = _ := q
        rw [List.drop_zero] at q
        have fm : f m = mhas (mBL (mview (c 682) 0) p m) (mview (c 682) 0 12 (4 * s + x)) := by
          rw [hf m, e14, s1, s2, decide_eq_true ⟨by omega, e2⟩, Bool.true_and]
        rw [← fm] at q
        obtain ⟨G, g1, g2, g3⟩ := ih (F - (mBL (mview (c 682) 0) p m).length - 1) (if is = 1 ∨ f m = true then 1 else 0) (by omega) (by omega) (by split; exact Or.inr rfl; exact Or.inl rfl)
        refine ⟨G, by omega, by omega, ?_⟩
        rw [if_pos e2, q, show F - (mBL (mview (c 682) 0) p m).length = F - (mBL (mview (c 682) 0) p m).length - 1 + 1 by omega, g3, zany_succ]
        rw [zor_if]
      · have nany : (List.range (m + 1)).any f = false := zany_none (fun j hj => by
          have sj : mview (c 682) 0 2 (20 * p + j) = c 682 (242 * p + 2 + 12 * j) := mw_2 hp (by omega) (by omega) (by omega)
          have a1 := pg.2.2.2 j m (by omega) (by omega) (by omega)
          have a2 := pg.2.2.2 m i (by omega) (by omega) hi
          rw [hf j, sj, s2, decide_eq_false (fun q => by have := q.2; omega), Bool.false_and])
        refine ⟨F + 1, by omega, by omega, ?_⟩
        rw [if_neg e2, fin (F + 1) is ((List.range (m + 1)).any f) his (fun _ => nany)]
theorem zm_score (h : MO c) (ok : MOK (c 682) 0) (hp : isP p) (hs : 0 ≤ s ∧ s < c 682 1023) {i : Nat} (hi : (i : Int) < c 682 (242 * p)) (hB : ∀ j : Nat, j < i → MBs c j (mBL (mview (c 682) 0) p j)) : zrun zTab (d + 3) 179 [681, p, (i : Int), s] c = some (mSc (mview (c 682) 0) p i s, c) := by
  obtain ⟨-, sn2, -⟩ := ok.sn hs.1 hs.2
  have n20 := (ok.pg hp).1
  have n9 := ok.n9
  rw [show 1024 + 57 * s + 11 = 1035 + 57 * s by omega] at sn2
  have e11 : mview (c 682) 0 11 s = c 682 (1035 + 57 * s) := mw_11 hs.1 hs.2
  have key : ∀ (t F x : Nat), 1000 * t ≤ F → (x : Int) + t = c 682 (1035 + 57 * s) → zex zc_X12_score zk_X12_score (zrun zTab (d + 2)) (F + 1) 6 [(2, 681), (0, p), (0, (i : Int)), (0, s), (0, mScN (mview (c 682) 0) p i s x), (0, (x : Int)), (3, 0), (3, 0), (3, 0)] [] c = some (mSc (mview (c 682) 0) p i s, c) := by
    intro t
    induction t with
    | zero =>
      intro F x hF hx
      rw [ze_X12_score_6, if_pos h.k, zm_hints d h (by omega), zbnd_some, show 1024 + 57 * s + 11 = 1035 + 57 * s by omega, if_neg (by omega)]
      unfold mSc
      rw [e11, show (c 682 (1035 + 57 * s)).toNat = x by omega]
    | succ t ih =>
      intro F x hF hx
      obtain ⟨F, rfl⟩ : ∃ G, F = G + 1 + 1 := ⟨F - 2, by omega⟩
      have b := mScN_le (mview (c 682) 0) p i s x
      obtain ⟨G, g1, g2, g3⟩ := zm_sc_24 d (x := (x : Int)) (sc := mScN (mview (c 682) 0) p i s x) h ok hp hs (by omega) hi hB (by omega) _ (fun j => rfl) i (F + 1) 0 (Nat.le_refl i) (by omega) (Or.inl rfl)
      rw [ze_X12_score_6, if_pos h.k, zm_hints d h (by omega), zbnd_some, show 1024 + 57 * s + 11 = 1035 + 57 * s by omega, if_pos (by omega), zsub_id (by omega) (by omega), g3]
      obtain ⟨G, rfl⟩ : ∃ G', G = G' + 1 := ⟨G - 1, by omega⟩
      have := ih G (x + 1) (by omega) (by omega)
      rw [show ((x + 1 : Nat) : Int) = (x : Int) + 1 by omega] at this
      rw [← this]
      have e : mScN (mview (c 682) 0) p i s (x + 1) = mScN (mview (c 682) 0) p i s x + (if mSt (mview (c 682) 0) p i (mview (c 682) 0 12 (4 * s + x)) = true then 1 else 0) := rfl
      rw [e]
      unfold mSt
      rw [Int.toNat_natCast]
      congr 1
      by_cases y : (List.range i).any (fun j => decide ((i : Int) - mview (c 682) 0 14 0 ≤ (j : Int) ∧ mview (c 682) 0 2 (20 * p + j) = mview (c 682) 0 2 (20 * p + i)) && mhas (mBL (mview (c 682) 0) p j) (mview (c 682) 0 12 (4 * s + x))) = true
      · rw [if_pos (Or.inr y), if_pos y]
      · rw [if_neg (fun q => q.elim (fun z => by omega) y), if_neg y]
  rw [ze_X12_score]
  exact key (c 682 (1035 + 57 * s)).toNat 19998 0 (by omega) (by omega)
end
