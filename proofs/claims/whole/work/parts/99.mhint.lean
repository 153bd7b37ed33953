/-! The reference: the hints of a sense are read. -/
/-- the hints that have been read, and no own page yet -/
def MHs (c : zC) (l : List Int) : Prop := c 685 11 = (l.length : Int) ∧ l.length ≤ 4 ∧ c 685 56 = -5 ∧ ∀ i : Nat, i < l.length → mWd (c 685) (12 + 11 * i) ∧ mV (c 685) (12 + 11 * i) = l.getD i 0
def FH (c c' : zC) : Prop := MS c c' ∧ (∀ b, b ≠ 681 → b ≠ 685 → ∀ k, c' b k = c b k) ∧ (∀ k, (k < 5 ∨ 7 < k) → c' 681 k = c 681 k) ∧ ∀ k, k < 11 → c' 685 k = c 685 k
theorem FH.rf (c : zC) : FH c c := ⟨MS.rf c, fun _ _ _ _ => rfl, fun _ _ => rfl, fun _ _ => rfl⟩
theorem FH.tr {c c1 c2 : zC} (h : FH c c1) (g : FH c1 c2) : FH c c2 := ⟨h.1.tr g.1, fun b b1 b2 k => (g.2.1 b b1 b2 k).trans (h.2.1 b b1 b2 k), fun k hk => (g.2.2.1 k hk).trans (h.2.2.1 k hk), fun k hk => (g.2.2.2 k hk).trans (h.2.2.2 k hk)⟩
theorem PF0.h {c c' : zC} (h : PF0 c c') : FH c c' := ⟨h.1, fun b b1 _ k => h.2.1 b b1 k, h.2.2, fun k _ => h.2.1 685 (by decide) k⟩
theorem PFr.h {c c' : zC} {a m : Int} (h : PFr c c' 685 a m) (ha : 11 ≤ a) : FH c c' := ⟨h.1, h.2.1, h.2.2.1, fun k hk => h.2.2.2 k (by omega)⟩
theorem FH.up {c : zC} {k v : Int} (hk : 11 ≤ k) : FH c (zup c 685 k v) := ⟨(MS.rf c).up (by omega) (Or.inl (by decide)), fun b b1 b2 j => zup_ne (by omega), fun j _ => zup_ne (by omega), fun j hj => zup_ne (by omega)⟩
theorem MHs.p0 {c c' : zC} {l : List Int} (h : MHs c l) (g : PF0 c c') : MHs c' l := by
  have e : c' 685 = c 685 := funext (g.2.1 685 (by decide))
  unfold MHs
  rw [e]
  exact h
theorem zgetI_app {l t : List Int} {j : Nat} (h : j < l.length) : (l ++ t).getD j 0 = l.getD j 0 := by
  rw [List.getD_eq_getElem?_getD, List.getElem?_append_left h, ← List.getD_eq_getElem?_getD]
section
variable {B : Int → Int} {n ca : Int} {s : tS}
theorem tWrd_stop {room : Prop} [Decidable room] (h : s.2.1 ≠ -1) : tWrd B n room s = (0, s) := by
  unfold tWrd
  rw [if_neg (fun q => h q.1), show tFail 1 s = s by unfold tFail; rw [if_neg h]]
  exact tLet_stop h 80 0 0
theorem tHin_1 {t : Nat} {l : List Int} (h : s.2.1 = -1) : tHin B n (t + 1) l s = (if tCm B n 44 (tWrd B n (l.length < 4) s).2 then tHin B n t (if l.length < 4 then l ++ [(tWrd B n (l.length < 4) s).1] else l) (tDem B n 44 (tWrd B n (l.length < 4) s).2) else (if l.length < 4 then l ++ [(tWrd B n (l.length < 4) s).1] else l, (tWrd B n (l.length < 4) s).2)) := if_pos h
theorem tDem_y {v : Int} (h : tCm B n v s) : tDem B n v s = (s.1 + 1, s.2) := if_pos h
end
section
variable {c : zC} {B : Int → Int} {n ca : Int} {s : tS} (d : Nat)
/-- no further hint where something is wrong -/
theorem Pc.hint_no (h : Pc c B n s) (e : s.2.1 ≠ -1) (F : Nat) : zbnd (zrun zTab (d + 6) 159 [681, 44] c) (fun v5 c6 => zex zc_X12_sense zk_X12_sense (zrun zTab (d + 6)) F 81 [(2, 681), (0, v5), (3, 0)] [] c6) = zex zc_X12_sense zk_X12_sense (zrun zTab (d + 6)) F 81 [(2, 681), (0, 0), (3, 0)] [] c := by
  rw [ze_X12_isNext, if_pos h.1.k, if_neg (fun q => e (h.neg.mp q)), zbnd_some]
theorem Pc.hint_l : ∀ (t F : Nat) (l : List Int) (s : tS) (c : zC), 2 * t ≤ F → l.length + t = 5 → 1 ≤ t → Pc c B n s → s.2.1 = -1 → MHs c l → ∃ (c' : zC) (F' : Nat), zex zc_X12_sense zk_X12_sense (zrun zTab (d + 6)) (F + 1) 81 [(2, 681), (0, 1), (3, 0)] [] c = zex zc_X12_sense zk_X12_sense (zrun zTab (d + 6)) (F' + 1) 81 [(2, 681), (0, 0), (3, 0)] [] c' ∧ F ≤ F' + 2 * t ∧ Pc c' B n (tHin B n t l s).2 ∧ FH c c' ∧ ((tHin B n t l s).2.2.1 = -1 → MHs c' (tHin B n t l s).1) := by
  intro t
  induction t with
  | zero => intro F l s c _ _ h1; omega
  | succ t ih =>
    intro F l s c hF hlt _ h e hm
    obtain ⟨F, rfl⟩ : ∃ G, F = G + 2 := ⟨F - 2, by omega⟩
    have mo := h.1
    obtain ⟨m1, m2, m3, m4⟩ := id hm
    rw [show F + 2 + 1 = F + 1 + 1 + 1 from rfl, ze_X12_sense_81, if_neg (by decide), if_pos mo.k, mo.f.2.2.2.1, if_pos (mo.r685 (by decide) (by decide)), m1, tHin_1 e]
    by_cases y : l.length < 4
    · have ew : tWrd B n (l.length < 4) s = tWrd B n True s := by
        unfold tWrd
        by_cases x : tAt B n s
        · rw [if_pos x, if_pos x, if_pos y, if_pos trivial]
        · rw [if_neg x, if_neg x]
      obtain ⟨c2, q1, q2, q3, q4⟩ := h.word (d + 1) (R := 685) (a := 12 + 11 * l.length) (Or.inr rfl) (by omega) (by unfold rowSz; rw [if_neg (by decide)]; omega)
      rw [if_neg (by omega), ze_X12_sense_108, if_pos mo.k, if_pos (h.neg.mpr e), if_pos mo.k, if_pos mo.k, mo.f.2.2.2.1, if_pos (mo.r685 (by decide) (by decide)), if_pos mo.k, m1, zmul_id (by omega) (by omega), zadd_id (by omega) (by omega), q1, zbnd_some, if_pos q2.1.k, q2.1.f.2.2.2.1, if_pos (q2.1.r685 (by decide) (by decide)), if_pos (q2.1.r685 (by decide) (by decide))]
      have e11 : c2 685 11 = (l.length : Int) := by rw [q3.2.2.2 11 (by omega)]; exact m1
      have h3 : Pc (zup c2 685 11 (l.length + 1)) B n (tWrd B n True s).2 := q2.row (Or.inr rfl) (by decide)
      have fh : FH c (zup c2 685 11 ((l.length : Int) + 1)) := (q3.h (by omega)).tr (FH.up (by decide))
      obtain ⟨c4, r1, r2, r3⟩ := h3.isNext (d + 4) (v := 44) (by decide)
      rw [e11, zadd_id (by omega) (by omega), if_pos h3.1.k, r1, zbnd_some, if_pos y, ew]
      have hl2 : (tWrd B n True s).2.2.1 = -1 → MHs (zup c2 685 11 ((l.length : Int) + 1)) (l ++ [(tWrd B n True s).1]) := fun q => by
        obtain ⟨v1, -, -⟩ := tWrd_adv h.2.2.2 (Or.inl e) q
        obtain ⟨w1, w2⟩ := q4 v1
        refine ⟨by rw [zup_eq ⟨rfl, rfl⟩, List.length_append]; rfl, by rw [List.length_append]; show l.length + 1 ≤ 4; omega, by rw [zup_ne (by omega), q3.2.2.2 56 (by omega)]; exact m3, fun i hi => ?_⟩
        rw [List.length_append] at hi
        have hi : i < l.length + 1 := hi
        by_cases u : i < l.length
        · obtain ⟨a1, a2⟩ := m4 i u
          have ek : ∀ k, 0 ≤ k → k ≤ 10 → zup c2 685 11 ((l.length : Int) + 1) 685 (12 + 11 * i + k) = c 685 (12 + 11 * i + k) := fun k k0 k1 => by rw [zup_ne (by omega), q3.2.2.2 _ (by omega)]
          have m := a1.eq ek
          rw [zgetI_app u]
          exact ⟨m.1, m.2.trans a2⟩
        · obtain rfl : i = l.length := by omega
          have eg : (l ++ [(tWrd B n True s).1]).getD l.length 0 = (tWrd B n True s).1 := by simp
          have ek : ∀ k, 0 ≤ k → k ≤ 10 → zup c2 685 11 ((l.length : Int) + 1) 685 (12 + 11 * l.length + k) = c2 685 (12 + 11 * l.length + k) := fun k k0 k1 => zup_ne (by omega)
          have m := w1.eq ek
          rw [eg]
          exact ⟨m.1, m.2.trans w2⟩
      by_cases z : tCm B n 44 (tWrd B n True s).2
      · rw [if_pos z] at r2
        rw [if_pos z, if_pos z, tDem_y z]
        have zz : (tWrd B n True s).2.2.1 = -1 := z.1
        obtain ⟨c5, F', u1, u2, u3, u4, u5⟩ := ih F (l ++ [(tWrd B n True s).1]) ((tWrd B n True s).2.1 + 1, (tWrd B n True s).2.2) c4 (by omega) (by rw [List.length_append]; show l.length + 1 + t = 5; omega) (by omega) r2 zz ((hl2 zz).p0 r3)
        exact ⟨c5, F', u1, by omega, u3, (fh.tr r3.h).tr u4, u5⟩
      · rw [if_neg z] at r2
        rw [if_neg z, if_neg z]
        exact ⟨c4, F, rfl, by omega, r2, fh.tr r3.h, fun q => (hl2 q).p0 r3⟩
    · have l4 : l.length = 4 := by omega
      rw [if_pos (by omega), if_pos mo.k, h.isLetter (d + 4), zbnd_some]
      by_cases x : tAt B n s
      · obtain ⟨c2, q1, q2, q3⟩ := h.fails (d + 5) 3
        have ne := tFail_ne (w := 3) h.2.2.2.1 (Or.inl e)
        have ew : tWrd B n (l.length < 4) s = (0, tFail 3 s) := by unfold tWrd; rw [if_pos x, if_neg y]; exact tLet_stop ne 80 0 0
        have no := q2.hint_no d ne (F + 1)
        rw [if_pos ((h.at e).mpr x), if_neg (by decide), if_pos mo.k, q1, zbnd_some, ze_X12_sense_108, if_pos q2.1.k, if_neg (fun q => ne (q2.neg.mp q)), if_pos q2.1.k, no, ew, if_neg (fun q => ne q.1)]
        exact ⟨c2, F, rfl, by omega, q2, q3.h, fun q => absurd q ne⟩
      · obtain ⟨c2, q1, q2, q3⟩ := h.fails (d + 4) 1
        have ne := tFail_ne (w := 1) h.2.2.2.1 (Or.inl e)
        have ew : tWrd B n (l.length < 4) s = (0, tFail 1 s) := by unfold tWrd; rw [if_neg x]; exact tLet_stop ne 80 0 0
        have nx : ¬ (97 ≤ hv2 c ∧ hv2 c ≤ 122) := fun q => x ((h.at e).mp q)
        have q1 : zrun zTab (d + 5) 158 [681, 1] c = some (0, c2) := q1
        have lt : zrun zTab (d + 5) 161 [681, 685, 57, 10] c2 = some (0, c2) := by
          rw [ze_X12_letters, ze_X12_letters_3, if_pos q2.1.k, if_neg (fun q => ne (q2.neg.mp q))]
        have wd : zrun zTab (d + 6) 162 [681, 685, 56] c = some (0, zup c2 685 56 0) := by
          rw [ze_X12_word, if_pos mo.k, h.isLetter (d + 3), zbnd_some, if_neg nx, if_pos rfl, if_pos mo.k, q1, zbnd_some, if_pos q2.1.k, show zadd 56 1 = 57 from rfl, lt, zbnd_some, if_pos (q2.1.r685 (by decide) (by decide))]
        have h3 : Pc (zup c2 685 56 0) B n (tFail 1 s) := q2.row (Or.inr rfl) (by decide)
        have e11 : zup c2 685 56 0 685 11 = 4 := by rw [zup_ne (by omega), q3.2.1 685 (by decide), m1]; omega
        have h4 : Pc (zup (zup c2 685 56 0) 685 11 5) B n (tFail 1 s) := h3.row (Or.inr rfl) (by decide)
        have no := h4.hint_no d ne (F + 1)
        rw [if_neg nx, if_pos rfl, ze_X12_sense_108, if_pos mo.k, if_pos (h.neg.mpr e), if_pos mo.k, if_pos mo.k, mo.f.2.2.2.1, if_pos (mo.r685 (by decide) (by decide)), if_pos mo.k, show c 685 11 = 4 by omega, show zadd 12 (zmul 11 4) = 56 from rfl, wd, zbnd_some, if_pos h3.1.k, h3.1.f.2.2.2.1, if_pos (h3.1.r685 (by decide) (by decide)), if_pos (h3.1.r685 (by decide) (by decide)), e11, show zadd 4 1 = 5 from rfl, if_pos h4.1.k, no, ew, if_neg (fun q => ne q.1)]
        exact ⟨_, F, rfl, by omega, h4, (q3.h.tr (FH.up (by decide))).tr (FH.up (by decide)), fun q => absurd q ne⟩
end
