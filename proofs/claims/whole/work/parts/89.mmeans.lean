/-! The reference: the meant sense of a word. -/
/-- what is told of a word: the base that is its head, its meant sense, the score -/
def MW (c : zC) (A : zA2) (p : Int) (i : Nat) : Prop := ((mHd A p i).2 = -5 ∧ c 692 i = -1 ∨ ∃ b : Nat, b < (mBL A p i).length ∧ c 692 i = b ∧ (mBL A p i).getD b (0, 0) = mHd A p i) ∧ c 693 i = (if (mMe A p i).1 = -5 then -1 else (mMe A p i).1) ∧ ((mMe A p i).1 ≠ -5 → c 694 i = (mMe A p i).2)
theorem MW.same {c c' : zC} {A : zA2} {p : Int} {i : Nat} (h : MW c A p i) (g : c' 692 i = c 692 i ∧ c' 693 i = c 693 i ∧ c' 694 i = c 694 i) : MW c' A p i := by
  unfold MW
  rw [g.1, g.2.1, g.2.2]
  exact h
theorem mBL_cap {f : Int → Int} (ok : MOK f 0) (p i : Int) : (mBL (mview f 0) p i).length ≤ 43 := by
  refine mbas_len _ _ ?_
  have := ok.n4
  have : mview f 0 4 0 = f 968 := rfl
  omega
section
variable {c : zC} {p : Int} {i : Nat} (d : Nat)
theorem zm_mn_45 {c0 : zC} {l : zBL} {b : Nat} (h : MO c0) (ok : MOK (c0 682) 0) (hi : (i : Int) < 20) (hl : MBs c0 i l) (hl2 : l.length ≤ 43) (hb : b < l.length) (p : Int) : ∀ (t F s : Nat) (v : Int), t ≤ F → (s : Int) + t = c0 682 1023 → v = (if (List.range s).any (fun s => decide (mview (c0 682) 0 10 (s : Int) = (l.getD b (0, 0)).1)) = true then (b : Int) else -1) → zex zc_X12_means zk_X12_means (zrun zTab (d + 3)) (F + 1) 45 [(2, 681), (0, p), (0, (i : Int)), (0, (b : Int)), (0, (s : Int)), (3, 0)] [] (zup c0 692 i v) = zex zc_X12_means zk_X12_means (zrun zTab (d + 3)) (F - t) 23 [(2, 681), (0, p), (0, (i : Int)), (0, (b : Int) + 1), (3, 0), (3, 0)] [] (zup c0 692 i (if mIsH (mview (c0 682) 0) (l.getD b (0, 0)).1 = true then (b : Int) else -1)) := by
  have n9 := ok.n9
  have e9 : mview (c0 682) 0 9 0 = c0 682 1023 := rfl
  intro t
  induction t with
  | zero =>
    intro F s v hF hs hv
    have m := h.ms ((MS.rf c0).up (b := 692) (k := (i : Int)) (v := v) (by omega) (Or.inl (by decide)))
    have e : zup c0 692 i v 682 1023 = c0 682 1023 := zup_ne (Or.inl (by decide))
    rw [ze_X12_means_45, if_pos m.k, zm_senses (d + 2) m, zbnd_some, e, if_neg (by omega), zw_id' (by omega) (by omega)]
    unfold mIsH
    rw [e9, show (c0 682 1023).toNat = s by omega, ← hv]
    rfl
  | succ t ih =>
    intro F s v hF hs hv
    obtain ⟨F, rfl⟩ : ∃ G, F = G + 1 := ⟨F - 1, by omega⟩
    have ms := (MS.rf c0).up (b := 692) (k := (i : Int)) (v := v) (by omega) (Or.inl (by decide))
    have m := h.ms ms
    have e682 : zup c0 692 i v 682 = c0 682 := funext (fun k => zup_ne (Or.inl (by decide)))
    have hl' : MBs (zup c0 692 i v) i l := hl.same (fun b b0 b1 k => zup_ne (by omega))
    have hd := zm_isHead (d + 1) (s := (s : Int)) m (by rw [e682]; exact ok) (by rw [e682]; omega) (by omega) hl' hl2 hb
    rw [e682] at hd
    have ev : zup c0 692 i v 692 i = v := zup_eq ⟨rfl, rfl⟩
    rw [ze_X12_means_45, if_pos m.k, zm_senses (d + 2) m, zbnd_some, e682, if_pos (by omega), if_pos m.k, if_pos m.k, hd, zbnd_some, zw_id' (by omega) (by omega), show (s : Int) + 1 = ((s + 1 : Nat) : Int) by omega]
    by_cases e : (l.getD b (0, 0)).1 = mview (c0 682) 0 10 s
    · rw [if_pos e, if_neg (by decide), m.f.2.2.2.2.2.2.2.2.2.2.1, if_pos (m.r692 (by omega) hi)]
      have z : zup (zup c0 692 i v) 692 i (b : Int) = zup c0 692 i (b : Int) := by
        funext x k
        unfold zup
        by_cases y : x = 692 ∧ k = (i : Int)
        · rw [if_pos y, if_pos y]
        · rw [if_neg y, if_neg y, if_neg y]
      rw [z, ih F (s + 1) b (by omega) (by omega) (by rw [zany_succ, decide_eq_true e.symm, Bool.or_true, if_pos rfl]), show F - t = F + 1 - (t + 1) by omega]
    · rw [if_neg e, if_pos rfl, if_pos m.k, m.f.2.2.2.2.2.2.2.2.2.2.1, if_pos (m.r692 (by omega) hi), if_pos (m.r692 (by omega) hi), zup_id, ih F (s + 1) v (by omega) (by omega) (by rw [zany_succ, decide_eq_false (fun q => e q.symm), Bool.or_false]; exact hv), show F - t = F + 1 - (t + 1) by omega]
theorem zfind_cons {P : Int × Int → Bool} {x : Int × Int} {l : zBL} : (x :: l).find? P = if P x = true then some x else l.find? P := by
  cases h : P x <;> simp [List.find?, h]
theorem zdrop_cons {l : zBL} {b : Nat} (h : b < l.length) : l.drop b = l.getD b (0, 0) :: l.drop (b + 1) := by
  rw [List.drop_eq_getElem_cons h]
  congr 1
  simp [List.getD, List.getElem?_eq_getElem h]
theorem zm_mn_23 {c0 : zC} {l : zBL} (h : MO c0) (ok : MOK (c0 682) 0) (hi : (i : Int) < 20) (hl : MBs c0 i l) (hl2 : l.length ≤ 43) (h0 : c0 692 i = -1) (p : Int) : ∀ (t F b : Nat), 10 * t + 2 ≤ F → b + t = l.length → (∃ b', b ≤ b' ∧ b' < l.length ∧ (l.drop b).find? (fun q => mIsH (mview (c0 682) 0) q.1) = some (l.getD b' (0, 0)) ∧ ∃ G, F ≤ G + 10 * t + 2 ∧ zex zc_X12_means zk_X12_means (zrun zTab (d + 3)) (F + 1) 23 [(2, 681), (0, p), (0, (i : Int)), (0, (b : Int)), (3, 0), (3, 0)] [] c0 = zex zc_X12_means zk_X12_means (zrun zTab (d + 3)) G 108 [(2, 681), (0, p), (0, (i : Int)), (0, 0), (0, 0), (3, 0)] [] (zup c0 692 i b')) ∨ (l.drop b).find? (fun q => mIsH (mview (c0 682) 0) q.1) = none ∧ zex zc_X12_means zk_X12_means (zrun zTab (d + 3)) (F + 1) 23 [(2, 681), (0, p), (0, (i : Int)), (0, (b : Int)), (3, 0), (3, 0)] [] c0 = some (0, c0) := by
  have n9 := ok.n9
  intro t
  induction t with
  | zero =>
    intro F b hF hb
    refine Or.inr ⟨?_, ?_⟩
    · rw [show b = l.length by omega, List.drop_length]; rfl
    · rw [ze_X12_means_23, if_pos h.k, h.f.2.2.2.2.1, if_pos (h.r686 (by omega) hi), hl.1, if_neg (by omega), if_pos h.k, h.f.2.2.2.2.2.2.2.2.2.2.1, if_pos (h.r692 (by omega) hi), h0, if_pos (by decide)]
  | succ t ih =>
    intro F b hF hb
    obtain ⟨F, rfl⟩ : ∃ G, F = G + 1 := ⟨F - 1, by omega⟩
    have hbl : b < l.length := by omega
    have q := zm_mn_45 d h ok hi hl hl2 hbl p (c0 682 1023).toNat F 0 (-1) (by omega) (by omega) rfl
    have z : zup c0 692 i (-1) = c0 := by
      have := zup_id c0 692 i
      rw [h0] at this
      exact this
    rw [z] at q
    have q : zex zc_X12_means zk_X12_means (zrun zTab (d + 3)) (F + 1) 45 [(2, 681), (0, p), (0, (i : Int)), (0, (b : Int)), (0, 0), (3, 0)] [] c0 = _ := q
    rw [ze_X12_means_23, if_pos h.k, h.f.2.2.2.2.1, if_pos (h.r686 (by omega) hi), hl.1, if_pos (by omega), if_pos h.k, h.f.2.2.2.2.2.2.2.2.2.2.1, if_pos (h.r692 (by omega) hi), h0, if_pos (by decide), q, zdrop_cons hbl, show (b : Int) + 1 = ((b + 1 : Nat) : Int) by omega]
    by_cases e : mIsH (mview (c0 682) 0) (l.getD b (0, 0)).1 = true
    · refine Or.inl ⟨b, Nat.le_refl b, hbl, ?_, F - (c0 682 1023).toNat - 1, by omega, ?_⟩
      · rw [zfind_cons, if_pos e]
      · rw [if_pos e]
        have m := h.ms ((MS.rf c0).up (b := 692) (k := (i : Int)) (v := (b : Int)) (by omega) (Or.inl (by decide)))
        have ev : zup c0 692 i (b : Int) 692 i = (b : Int) := zup_eq ⟨rfl, rfl⟩
        have e6 : zup c0 692 i (b : Int) 686 i = (l.length : Int) := by rw [zup_ne (by omega)]; exact hl.1
        obtain ⟨G, hG⟩ : ∃ G, F - (c0 682 1023).toNat = G + 1 := ⟨F - (c0 682 1023).toNat - 1, by omega⟩
        rw [hG, ze_X12_means_23, if_pos m.k, m.f.2.2.2.2.1, if_pos (m.r686 (by omega) hi), e6, m.f.2.2.2.2.2.2.2.2.2.2.1, ev]
        by_cases y : ((b + 1 : Nat) : Int) < (l.length : Int)
        · rw [if_pos y, if_pos m.k, if_pos (m.r692 (by omega) hi), if_neg (by omega), if_pos m.k, if_pos (m.r692 (by omega) hi), if_neg (by omega)]
          rfl
        · rw [if_neg y, if_pos m.k, if_pos (m.r692 (by omega) hi), if_neg (by omega)]
          rfl
    · rw [if_neg e, z, zfind_cons, if_neg e]
      obtain ⟨G, hG⟩ : ∃ G, F - (c0 682 1023).toNat = G + 1 := ⟨F - (c0 682 1023).toNat - 1, by omega⟩
      rw [hG]
      rcases ih G (b + 1) (by omega) (by omega) with ⟨b', x1, x2, x3, G2, x4, x5⟩ | ⟨x1, x2⟩
      · exact Or.inl ⟨b', by omega, x2, x3, G2, by omega, x5⟩
      · exact Or.inr ⟨x1, x2⟩
theorem zm_mn_108 {c0 : zC} {hb : Nat} (h : MO c0) (ok : MOK (c0 682) 0) (hp : isP p) (hi : (i : Int) < c0 682 (242 * p)) (hB : ∀ j : Nat, j ≤ i → MBs c0 j (mBL (mview (c0 682) 0) p j)) (h0 : c0 692 i = hb) (hb1 : hb < (mBL (mview (c0 682) 0) p i).length) (hb2 : ((mBL (mview (c0 682) 0) p i).getD hb (0, 0)).1 = (mHd (mview (c0 682) 0) p i).1) : ∀ (t F s : Nat), t ≤ F → (s : Int) + t = c0 682 1023 → ∃ c', zex zc_X12_means zk_X12_means (zrun zTab (d + 4)) (F + 1) 108 [(2, 681), (0, p), (0, (i : Int)), (0, (mCh (mview (c0 682) 0) p i s).1), (0, (s : Int)), (3, 0)] [] (zup (zup c0 694 i (if (mCh (mview (c0 682) 0) p i s).2.1 = -5 then -1 else (mCh (mview (c0 682) 0) p i s).2.2)) 693 i (if (mCh (mview (c0 682) 0) p i s).2.1 = -5 then -1 else (mCh (mview (c0 682) 0) p i s).2.1)) = some (0, c') ∧ (∀ b k, (b ≠ 693 ∧ b ≠ 694 ∨ k ≠ (i : Int)) → c' b k = c0 b k) ∧ c' 693 i = (if (mMe (mview (c0 682) 0) p i).1 = -5 then -1 else (mMe (mview (c0 682) 0) p i).1) ∧ ((mMe (mview (c0 682) 0) p i).1 ≠ -5 → c' 694 i = (mMe (mview (c0 682) 0) p i).2) := by
  have n9 := ok.n9
  have n20 := (ok.pg hp).1
  have e9 : mview (c0 682) 0 9 0 = c0 682 1023 := rfl
  intro t
  induction t with
  | zero =>
    intro F s hF hs
    have sn : (mview (c0 682) 0 9 0).toNat = s := by rw [e9]; omega
    have ch := mCh_ok (mview (c0 682) 0) p i s
    have ms := ((MS.rf c0).up (b := 694) (k := (i : Int)) (v := if (mCh (mview (c0 682) 0) p i s).2.1 = -5 then -1 else (mCh (mview (c0 682) 0) p i s).2.2) (by omega) (Or.inl (by decide))).up (b := 693) (k := (i : Int)) (v := if (mCh (mview (c0 682) 0) p i s).2.1 = -5 then -1 else (mCh (mview (c0 682) 0) p i s).2.1) (by omega) (Or.inl (by decide))
    have m := h.ms ms
    have me : mMe (mview (c0 682) 0) p i = if 1 < (mCh (mview (c0 682) 0) p i s).1 ∧ (mCh (mview (c0 682) 0) p i s).2.2 = 0 then (-5, -5) else (mCh (mview (c0 682) 0) p i s).2 := by unfold mMe; rw [sn]
    generalize mCh (mview (c0 682) 0) p i s = C at ch ms m me ⊢
    obtain ⟨x, y, z⟩ := C
    dsimp only at ch ms m me ⊢
    generalize hZ : (if y = -5 then (-1 : Int) else z) = Z at ms m ⊢
    generalize hY : (if y = -5 then (-1 : Int) else y) = Y at ms m ⊢
    have e4 : zup (zup c0 694 i Z) 693 i Y 694 i = Z := by rw [zup_ne (by omega), zup_eq ⟨rfl, rfl⟩]
    have e3 : zup (zup c0 694 i Z) 693 i Y 693 i = Y := zup_eq ⟨rfl, rfl⟩
    have e682 : zup (zup c0 694 i Z) 693 i Y 682 1023 = c0 682 1023 := by rw [zup_ne (by omega), zup_ne (by omega)]
    have o : ∀ b k, (b ≠ 693 ∧ b ≠ 694 ∨ k ≠ (i : Int)) → zup (zup c0 694 i Z) 693 i Y b k = c0 b k := fun b k q => by rw [zup_ne (by omega), zup_ne (by omega)]
    rw [ze_X12_means_108, if_pos m.k, zm_senses (d + 3) m, zbnd_some, e682, if_neg (by omega)]
    by_cases q1 : x ≤ 1
    · rw [if_pos q1]
      rw [if_neg (by omega)] at me
      refine ⟨_, rfl, o, ?_, fun q => ?_⟩
      · rw [me]; exact e3.trans hY.symm
      · rw [me] at q ⊢
        have q : y ≠ -5 := q
        rw [if_neg q] at hZ
        exact e4.trans hZ.symm
    · have yn : ¬ y = -5 := by omega
      rw [if_neg yn] at hZ hY
      rw [if_neg q1, if_pos m.k, m.f.2.2.2.2.2.2.2.2.2.2.2.2.1, if_pos (m.r694 (by omega) (by omega)), e4]
      by_cases q2 : z = 0
      · rw [if_pos (hZ.symm.trans q2), if_pos m.k, m.f.2.2.2.2.2.2.2.2.2.2.2.1, if_pos (m.r693 (by omega) (by omega))]
        rw [if_pos ⟨by omega, q2⟩] at me
        refine ⟨_, rfl, fun b k q => ?_, ?_, fun q => ?_⟩
        · rw [zup_ne (by omega), zup_ne (by omega), zup_ne (by omega)]
        · rw [me, zup_eq ⟨rfl, rfl⟩]; rfl
        · rw [me] at q; exact absurd rfl q
      · rw [if_neg (fun q => q2 (hZ.trans q))]
        rw [if_neg (fun q => q2 q.2)] at me
        refine ⟨_, rfl, o, ?_, fun q => ?_⟩
        · rw [me]
          show _ = if y = -5 then -1 else y
          rw [if_neg yn]; exact e3.trans hY.symm
        · rw [me]; exact e4.trans hZ.symm
  | succ t ih =>
    intro F s hF hs
    obtain ⟨F, rfl⟩ : ∃ G, F = G + 1 := ⟨F - 1, by omega⟩
    have ch := mCh_ok (mview (c0 682) 0) p i s
    have ms := ((MS.rf c0).up (b := 694) (k := (i : Int)) (v := if (mCh (mview (c0 682) 0) p i s).2.1 = -5 then -1 else (mCh (mview (c0 682) 0) p i s).2.2) (by omega) (Or.inl (by decide))).up (b := 693) (k := (i : Int)) (v := if (mCh (mview (c0 682) 0) p i s).2.1 = -5 then -1 else (mCh (mview (c0 682) 0) p i s).2.1) (by omega) (Or.inl (by decide))
    have m := h.ms ms
    have st : mCh (mview (c0 682) 0) p i (s + 1) = if mview (c0 682) 0 10 (s : Int) = (mHd (mview (c0 682) 0) p i).1 then ((mCh (mview (c0 682) 0) p i s).1 + 1, if (mCh (mview (c0 682) 0) p i s).2.2 < mSc (mview (c0 682) 0) p i s then ((s : Int), mSc (mview (c0 682) 0) p i s) else (mCh (mview (c0 682) 0) p i s).2) else mCh (mview (c0 682) 0) p i s := rfl
    have ihs := ih F (s + 1) (by omega) (by omega)
    rw [st] at ihs
    generalize mCh (mview (c0 682) 0) p i s = C at ch ms m ihs ⊢
    obtain ⟨x, y, z⟩ := C
    dsimp only at ch ms m ihs ⊢
    have e682 : zup (zup c0 694 i (if y = -5 then -1 else z)) 693 i (if y = -5 then -1 else y) 682 = c0 682 := funext (fun k => by rw [zup_ne (by omega), zup_ne (by omega)])
    have e2 : zup (zup c0 694 i (if y = -5 then -1 else z)) 693 i (if y = -5 then -1 else y) 692 i = (hb : Int) := by rw [zup_ne (by omega), zup_ne (by omega)]; exact h0
    have e4 : zup (zup c0 694 i (if y = -5 then -1 else z)) 693 i (if y = -5 then -1 else y) 694 i = (if y = -5 then -1 else z) := by rw [zup_ne (by omega), zup_eq ⟨rfl, rfl⟩]
    have hBs : ∀ j : Nat, j ≤ i → MBs (zup (zup c0 694 i (if y = -5 then -1 else z)) 693 i (if y = -5 then -1 else y)) j (mBL (mview (c0 682) 0) p j) := fun j hj => (hB j hj).same (fun b b0 b1 k => by rw [zup_ne (by omega), zup_ne (by omega)])
    have hd := zm_isHead (d + 2) (s := (s : Int)) m (by rw [e682]; exact ok) (by rw [e682]; omega) (by omega) (hBs i (Nat.le_refl i)) (mBL_cap ok p i) hb1
    rw [e682, hb2] at hd
    have run := zm_score (d + 1) (s := (s : Int)) (i := i) m (by rw [e682]; exact ok) hp (by rw [e682]; omega) (by rw [e682]; exact hi) (fun j hj => by rw [e682]; exact hBs j (by omega))
    rw [e682] at run
    rw [ze_X12_means_108, if_pos m.k, zm_senses (d + 3) m, zbnd_some, e682, if_pos (by omega), if_pos m.k, m.f.2.2.2.2.2.2.2.2.2.2.1, if_pos (m.r692 (by omega) (by omega)), if_pos m.k, e2, hd, zbnd_some, zw_id' (x := (s : Int) + 1) (by omega) (by omega), show (s : Int) + 1 = ((s + 1 : Nat) : Int) by omega]
    by_cases e : (mHd (mview (c0 682) 0) p i).1 = mview (c0 682) 0 10 s
    · rw [if_pos e.symm] at ihs
      have sc := mScN_le (mview (c0 682) 0) p i s (mview (c0 682) 0 11 s).toNat
      have esc : mScN (mview (c0 682) 0) p i s (mview (c0 682) 0 11 s).toNat = mSc (mview (c0 682) 0) p i s := rfl
      rw [esc] at sc
      rw [if_pos e, if_neg (by decide), if_pos m.k, run, zbnd_some, if_pos m.k, m.f.2.2.2.2.2.2.2.2.2.2.2.2.1, if_pos (m.r694 (by omega) (by omega)), e4, zw_id' (by omega) (by omega)]
      by_cases g : z < mSc (mview (c0 682) 0) p i s
      · rw [if_pos g] at ihs
        dsimp only at ihs
        have ms2 := ms.up (b := 694) (k := (i : Int)) (v := mSc (mview (c0 682) 0) p i s) (by omega) (Or.inl (by decide))
        have m2 := h.ms ms2
        rw [if_neg (show ¬ (mSc (mview (c0 682) 0) p i s ≤ if y = -5 then -1 else z) by split <;> omega), if_pos m.k, if_pos (m.r694 (by omega) (by omega)), if_pos m2.k, m2.f.2.2.2.2.2.2.2.2.2.2.2.1, if_pos (m2.r693 (by omega) (by omega)), zup2_up (by decide)]
        rw [if_neg (show ¬ (s : Int) = -5 by omega), if_neg (show ¬ (s : Int) = -5 by omega)] at ihs
        exact ihs
      · rw [if_neg g] at ihs
        dsimp only at ihs
        rw [if_pos (show mSc (mview (c0 682) 0) p i s ≤ (if y = -5 then -1 else z) by split <;> omega)]
        exact ihs
    · rw [if_neg (fun q => e q.symm)] at ihs
      dsimp only at ihs
      rw [if_neg e, if_pos rfl]
      exact ihs
theorem zm_means (h : MO c) (ok : MOK (c 682) 0) (hp : isP p) (hi : (i : Int) < c 682 (242 * p)) (hB : ∀ j : Nat, j ≤ i → MBs c j (mBL (mview (c 682) 0) p j)) : ∃ c', zrun zTab (d + 5) 180 [681, p, (i : Int)] c = some (0, c') ∧ MW c' (mview (c 682) 0) p i ∧ MS c c' ∧ ∀ b k, ((b < 692 ∨ 694 < b) ∨ k ≠ (i : Int)) → c' b k = c b k := by
  have n20 := (ok.pg hp).1
  have n9 := ok.n9
  have ms1 := (MS.rf c).up (b := 692) (k := (i : Int)) (v := -1) (by omega) (Or.inl (by decide))
  have ms2 := ms1.up (b := 693) (k := (i : Int)) (v := -1) (by omega) (Or.inl (by decide))
  have ms3 := ms2.up (b := 694) (k := (i : Int)) (v := -1) (by omega) (Or.inl (by decide))
  have m1 := h.ms ms1
  have m2 := h.ms ms2
  have m3 := h.ms ms3
  have o : ∀ b k, ((b < 692 ∨ 694 < b) ∨ k ≠ (i : Int)) → zup (zup (zup c 692 i (-1)) 693 i (-1)) 694 i (-1) b k = c b k := fun b k q => by rw [zup_ne (by omega), zup_ne (by omega), zup_ne (by omega)]
  have e2 : zup (zup (zup c 692 i (-1)) 693 i (-1)) 694 i (-1) 692 i = -1 := by rw [zup_ne (by omega), zup_ne (by omega), zup_eq ⟨rfl, rfl⟩]
  have e3 : zup (zup (zup c 692 i (-1)) 693 i (-1)) 694 i (-1) 693 i = -1 := by rw [zup_ne (by omega), zup_eq ⟨rfl, rfl⟩]
  have e4 : zup (zup (zup c 692 i (-1)) 693 i (-1)) 694 i (-1) 694 i = -1 := zup_eq ⟨rfl, rfl⟩
  have e682 : zup (zup (zup c 692 i (-1)) 693 i (-1)) 694 i (-1) 682 = c 682 := funext (fun k => o 682 k (by omega))
  have hB2 : ∀ j : Nat, j ≤ i → MBs (zup (zup (zup c 692 i (-1)) 693 i (-1)) 694 i (-1)) j (mBL (mview (c 682) 0) p j) := fun j hj => (hB j hj).same (fun b b0 b1 k => o b k (by omega))
  rw [ze_X12_means, if_pos h.k, h.f.2.2.2.2.2.2.2.2.2.2.1, if_pos (h.r692 (by omega) (by omega)), if_pos m1.k, m1.f.2.2.2.2.2.2.2.2.2.2.2.1, if_pos (m1.r693 (by omega) (by omega)), if_pos m2.k, m2.f.2.2.2.2.2.2.2.2.2.2.2.2.1, if_pos (m2.r694 (by omega) (by omega))]
  generalize zup (zup (zup c 692 i (-1)) 693 i (-1)) 694 i (-1) = c0 at ms3 m3 o e2 e3 e4 e682 hB2 ⊢
  have cap := mBL_cap ok p i
  have fnd : mHd (mview (c 682) 0) p i = ((mBL (mview (c 682) 0) p i).find? (fun q => mIsH (mview (c 682) 0) q.1)).getD (0, -5) := rfl
  have q := zm_mn_23 (d + 1) m3 (by rw [e682]; exact ok) (by omega) (hB2 i (Nat.le_refl i)) cap e2 p (mBL (mview (c 682) 0) p i).length 19998 0 (by omega) (by omega)
  rw [e682, List.drop_zero] at q
  rcases q with ⟨b', x1, x2, x3, G, x4, x5⟩ | ⟨x1, x2⟩
  · rw [x3] at fnd
    have fnd : mHd (mview (c 682) 0) p i = (mBL (mview (c 682) 0) p i).getD b' (0, 0) := fnd
    obtain ⟨G, rfl⟩ : ∃ G', G = G' + 1 := ⟨G - 1, by omega⟩
    have ms4 := ms3.up (b := 692) (k := (i : Int)) (v := (b' : Int)) (by omega) (Or.inl (by decide))
    have o4 : ∀ b k, ((b < 692 ∨ 694 < b) ∨ k ≠ (i : Int)) → zup c0 692 i (b' : Int) b k = c b k := fun b k q => by rw [zup_ne (by omega)]; exact o b k q
    have f682 : zup c0 692 i (b' : Int) 682 = c 682 := funext (fun k => o4 682 k (by omega))
    obtain ⟨c', y1, y2, y3, y4⟩ := zm_mn_108 d (c0 := zup c0 692 i (b' : Int)) (hb := b') (h.ms ms4) (by rw [f682]; exact ok) hp (by rw [f682]; exact hi) (fun j hj => by rw [f682]; exact (hB2 j hj).same (fun b b0 b1 k => zup_ne (by omega))) (zup_eq ⟨rfl, rfl⟩) (by rw [f682]; exact x2) (by rw [f682, fnd]) (c 682 1023).toNat G 0 (by omega) (by rw [f682]; omega)
    rw [f682] at y1 y3 y4
    have z : zup (zup (zup c0 692 i (b' : Int)) 694 i (-1)) 693 i (-1) = zup c0 692 i (b' : Int) := by
      funext x k
      unfold zup
      by_cases u : x = 693 ∧ k = (i : Int)
      · rw [if_pos u, if_neg (by omega), u.1, u.2, e3]
      · rw [if_neg u]
        by_cases v : x = 694 ∧ k = (i : Int)
        · rw [if_pos v, if_neg (by omega), v.1, v.2, e4]
        · rw [if_neg v]
    have y1 : zex zc_X12_means zk_X12_means (zrun zTab (d + 4)) (G + 1) 108 [(2, 681), (0, p), (0, (i : Int)), (0, 0), (0, 0), (3, 0)] [] (zup (zup (zup c0 692 i (b' : Int)) 694 i (-1)) 693 i (-1)) = some (0, c') := y1
    rw [z] at y1
    refine ⟨c', x5.trans y1, ⟨Or.inr ⟨b', x2, ?_, fnd.symm⟩, y3, y4⟩, ⟨fun b k hk => ?_, fun k hk => ?_⟩, fun b k q => ?_⟩
    · rw [y2 692 i (by omega), zup_eq ⟨rfl, rfl⟩]
    · rw [y2 b k (by omega), o4 b k (by omega)]
    · rw [y2 681 k (by omega), o4 681 k (by omega)]
    · rw [y2 b k (by omega)]; exact o4 b k q
  · rw [x1] at fnd
    have fnd : mHd (mview (c 682) 0) p i = (0, -5) := fnd
    have me : mMe (mview (c 682) 0) p i = (-5, -5) := by
      unfold mMe
      rw [mCh_zero (fun s hs => by
        rw [fnd]
        have e9 : mview (c 682) 0 9 0 = c 682 1023 := rfl
        rw [e9] at hs
        exact ok.v.sn.2 s (by omega) (by rw [e9]; omega))]
      rfl
    refine ⟨c0, x2, ⟨Or.inl ⟨by rw [fnd], e2⟩, by rw [me, e3]; rfl, fun q => by rw [me] at q; exact absurd rfl q⟩, ms3, o⟩
end
