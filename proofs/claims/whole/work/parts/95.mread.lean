/-! The reference: words of a page, one word, what is wrong. -/
/-- the cause is the elder one while nothing is wrong -/
def tK (ca : Int) (s : tS) : Prop := s.2.1 = -1 ∧ s.2.2 = ca ∨ 0 ≤ s.2.1 ∧ 1 ≤ s.2.2 ∧ s.2.2 ≤ 3
def tG (n ca : Int) (s : tS) : Prop := tIn n s ∧ tK ca s
section
variable {B : Int → Int} {n ca : Int} {s : tS}
theorem tG.fail {w : Int} (h : tG n ca s) (hw : 1 ≤ w ∧ w ≤ 3) : tG n ca (tFail w s) := by
  refine ⟨h.1.fail, ?_⟩
  unfold tFail
  by_cases e : s.2.1 = -1
  · rw [if_pos e]; exact Or.inr ⟨h.1.1, hw.1, hw.2⟩
  · rw [if_neg e]; exact h.2
theorem tG.dem {v : Int} (h : tG n ca s) (hv : v ≠ -1) : tG n ca (tDem B n v s) := by
  refine ⟨h.1.dem hv, ?_⟩
  unfold tDem
  split
  · exact h.2
  · exact (h.fail ⟨by decide, by decide⟩).2
theorem tG.tend (h : tG n ca s) : tG n ca (tEnd B n s) := by
  unfold tEnd
  split
  · exact h
  · exact h.fail ⟨by decide, by decide⟩
theorem tG.letl {most : Int} : ∀ (t : Nat) (k w : Int) (s : tS), tG n ca s → tG n ca (tLet B n most t k w s).2 := by
  intro t
  induction t with
  | zero => intro k w s h; exact h
  | succ t ih =>
    intro k w s h
    show tG n ca (if tAt B n s then (if k < most then tLet B n most t (k + 1) (w * 32 + (tB B n s.1 - 96)) (s.1 + 1, s.2) else tLet B n most t (k + 1) w (tFail 2 s)) else (w, s)).2
    by_cases x : tAt B n s
    · have pl := tB_at x
      rw [if_pos x]
      split
      · exact ih _ _ _ ⟨⟨by show 0 ≤ s.1 + 1; omega, by show s.1 + 1 ≤ n; omega⟩, h.2⟩
      · exact ih _ _ _ (h.fail ⟨by decide, by decide⟩)
    · rw [if_neg x]; exact h
theorem tG.lets {most : Int} (h : tG n ca s) : tG n ca (tLets B n most s).2 := tG.letl 80 0 0 s h
theorem tG.wrd {room : Prop} [Decidable room] (h : tG n ca s) : tG n ca (tWrd B n room s).2 := by
  unfold tWrd
  refine tG.lets ?_
  split
  · split
    · exact h
    · exact h.fail ⟨by decide, by decide⟩
  · exact h.fail ⟨by decide, by decide⟩
theorem tG.hin : ∀ (t : Nat) (l : List Int) (s : tS), tG n ca s → tG n ca (tHin B n t l s).2 := by
  intro t
  induction t with
  | zero => intro l s h; exact h
  | succ t ih =>
    intro l s h
    show tG n ca (if s.2.1 = -1 then (if tCm B n 44 (tWrd B n (l.length < 4) s).2 then tHin B n t (if l.length < 4 then l ++ [(tWrd B n (l.length < 4) s).1] else l) (tDem B n 44 (tWrd B n (l.length < 4) s).2) else (if l.length < 4 then l ++ [(tWrd B n (l.length < 4) s).1] else l, (tWrd B n (l.length < 4) s).2)) else (l, s)).2
    split
    · split
      · exact ih _ _ (h.wrd.dem (by decide))
      · exact h.wrd
    · exact h
theorem tG.own {o : Int} (h : tG n ca s) : tG n ca (tOwn B n o s).2 := by
  unfold tOwn
  split
  · rename_i q
    have g := h.dem (B := B) (v := 64) (by decide)
    have : (tDem B n 64 s).1 < n := by
      by_cases x : (tDem B n 64 s).1 < n
      · exact x
      · have e : tB B n (tDem B n 64 s).1 = -1 := by unfold tB; rw [if_neg (fun y => x y.2)]
        rw [e] at q; omega
    exact ⟨⟨by show 0 ≤ (tDem B n 64 s).1 + 1; have := g.1.1; omega, by show (tDem B n 64 s).1 + 1 ≤ n; omega⟩, g.2⟩
  · exact (h.dem (by decide)).fail ⟨by decide, by decide⟩
theorem tG.sl {sec : Int} (h : tG n ca s) : tG n ca (tSl sec s) := by
  unfold tSl
  split
  · exact h
  · exact h.fail ⟨by decide, by decide⟩
theorem tG.sec : ∀ (t : Nat) (sec : Int) (l : zBL) (s : tS), tG n ca s → tG n ca (tSec B n t sec l s).2 := by
  intro t
  induction t with
  | zero => intro sec l s h; exact h
  | succ t ih =>
    intro sec l s h
    show tG n ca (if s.2.1 = -1 then (if tCm B n (-1) (tWrd B n (l.length < 20) s).2 then (tAdd B n sec l s, (tWrd B n (l.length < 20) s).2) else (if tCm B n 47 (tDem B n 32 (tWrd B n (l.length < 20) s).2) then tSec B n t (sec + 1) (tAdd B n sec l s) (tDem B n 32 (tDem B n 47 (tSl sec (tDem B n 32 (tWrd B n (l.length < 20) s).2)))) else tSec B n t sec (tAdd B n sec l s) (tDem B n 32 (tWrd B n (l.length < 20) s).2))) else (l, s)).2
    split
    · split
      · exact h.wrd
      · split
        · exact ih _ _ _ (((h.wrd.dem (by decide)).sl.dem (by decide)).dem (by decide))
        · exact ih _ _ _ (h.wrd.dem (by decide))
    · exact h
theorem tG.start (h : 0 ≤ n) : tG n ca (0, -1, ca) := ⟨⟨Int.le_refl 0, h⟩, Or.inl ⟨rfl, rfl⟩⟩
theorem tLet_mono {most : Int} : ∀ (t : Nat) (k w : Int) (s : tS), s.1 ≤ (tLet B n most t k w s).2.1 := by
  intro t
  induction t with
  | zero => intro k w s; exact Int.le_refl _
  | succ t ih =>
    intro k w s
    show s.1 ≤ (if tAt B n s then (if k < most then tLet B n most t (k + 1) (w * 32 + (tB B n s.1 - 96)) (s.1 + 1, s.2) else tLet B n most t (k + 1) w (tFail 2 s)) else (w, s)).2.1
    split
    · split
      · have := ih (k + 1) (w * 32 + (tB B n s.1 - 96)) (s.1 + 1, s.2)
        have e : (s.1 + 1, s.2).1 = s.1 + 1 := rfl
        rw [e] at this
        omega
      · have := ih (k + 1) w (tFail 2 s)
        have e : (tFail 2 s).1 = s.1 := by unfold tFail; split <;> rfl
        rw [e] at this
        exact this
    · exact Int.le_refl _
theorem tWrd_adv {room : Prop} [Decidable room] (hs : tIn n s) (h2 : s.2.1 = -1 ∨ 0 ≤ s.2.1) (h : (tWrd B n room s).2.2.1 = -1) : tAt B n s ∧ room ∧ s.1 + 1 ≤ (tWrd B n room s).2.1 := by
  unfold tWrd tLets at h ⊢
  by_cases x : tAt B n s
  · by_cases y : room
    · rw [if_pos x, if_pos y] at h ⊢
      refine ⟨x, y, ?_⟩
      show s.1 + 1 ≤ (if tAt B n s then (if (0 : Int) < 10 then tLet B n 10 79 (0 + 1) (0 * 32 + (tB B n s.1 - 96)) (s.1 + 1, s.2) else tLet B n 10 79 (0 + 1) 0 (tFail 2 s)) else (0, s)).2.1
      rw [if_pos x, if_pos (by decide)]
      exact tLet_mono 79 _ _ (s.1 + 1, s.2)
    · rw [if_pos x, if_neg y, tLet_stop (tFail_ne hs.1 h2)] at h
      exact absurd h (tFail_ne hs.1 h2)
  · rw [if_neg x, tLet_stop (tFail_ne hs.1 h2)] at h
    exact absurd h (tFail_ne hs.1 h2)
/-- what comes behind a word of a page -/
def tAft (B : Int → Int) (n : Int) (t : Nat) (sec : Int) (l : zBL) (s : tS) : zBL × tS := if tCm B n (-1) s then (l, s) else (if tCm B n 47 (tDem B n 32 s) then tSec B n t (sec + 1) l (tDem B n 32 (tDem B n 47 (tSl sec (tDem B n 32 s)))) else tSec B n t sec l (tDem B n 32 s))
theorem tSec_aft {t : Nat} {sec : Int} {l : zBL} (h : s.2.1 = -1) : tSec B n (t + 1) sec l s = tAft B n t sec (tAdd B n sec l s) (tWrd B n (l.length < 20) s).2 := if_pos h
theorem tSec_stop {sec : Int} {l : zBL} (h : s.2.1 ≠ -1) (t : Nat) : tSec B n t sec l s = (l, s) := by
  cases t with
  | zero => rfl
  | succ t => exact if_neg h
theorem tDem_stop {v : Int} (h : s.2.1 ≠ -1) : tDem B n v s = s := by
  unfold tDem tFail
  rw [if_neg (fun q => h q.1), if_neg h]
/-- sections in their order, none above one -/
def Srt (l : zBL) (sec : Int) : Prop := (∀ i j : Nat, i ≤ j → j < l.length → (l.getD i (0, 0)).2 ≤ (l.getD j (0, 0)).2) ∧ ∀ i : Nat, i < l.length → 0 ≤ (l.getD i (0, 0)).2 ∧ (l.getD i (0, 0)).2 ≤ sec
theorem Srt.mono {l : zBL} {a b : Int} (h : Srt l a) (hab : a ≤ b) : Srt l b := ⟨h.1, fun i hi => ⟨(h.2 i hi).1, by have := (h.2 i hi).2; omega⟩⟩
theorem Srt.app {l : zBL} {a w : Int} (h : Srt l a) (ha : 0 ≤ a) : Srt (l ++ [(w, a)]) a := by
  have e : ∀ i : Nat, i < l.length + 1 → (l ++ [(w, a)]).getD i (0, 0) = if i < l.length then l.getD i (0, 0) else (w, a) := fun i hi => by
    by_cases x : i < l.length
    · rw [if_pos x, zgetD_app x]
    · obtain rfl : i = l.length := by omega
      rw [if_neg (by omega)]; simp
  refine ⟨fun i j ij hj => ?_, fun i hi => ?_⟩
  · rw [List.length_append] at hj
    have hj : j < l.length + 1 := hj
    rw [e i (by omega), e j hj]
    by_cases y : j < l.length
    · rw [if_pos y, if_pos (by omega)]; exact h.1 i j ij y
    · rw [if_neg y]
      by_cases x : i < l.length
      · rw [if_pos x]; exact (h.2 i x).2
      · rw [if_neg x]; exact Int.le_refl _
  · rw [List.length_append] at hi
    have hi : i < l.length + 1 := hi
    rw [e i hi]
    by_cases x : i < l.length
    · rw [if_pos x]; exact h.2 i x
    · rw [if_neg x]; exact ⟨ha, Int.le_refl _⟩
end
/-- the words that have been read -/
def MLs (c : zC) (l : zBL) : Prop := c 681 10 = (l.length : Int) ∧ l.length ≤ 20 ∧ ∀ i : Nat, i < l.length → c 684 (12 * i) = (l.getD i (0, 0)).2 ∧ mWd (c 684) (12 * i + 1) ∧ mV (c 684) (12 * i + 1) = (l.getD i (0, 0)).1
def PFw (c c' : zC) : Prop := MS c c' ∧ (∀ b, b ≠ 681 → b ≠ 684 → ∀ k, c' b k = c b k) ∧ ∀ k, (k < 5 ∨ 7 < k ∧ k ≠ 10) → c' 681 k = c 681 k
theorem PFw.rf (c : zC) : PFw c c := ⟨MS.rf c, fun _ _ _ _ => rfl, fun _ _ => rfl⟩
theorem PFw.tr {c c1 c2 : zC} (h : PFw c c1) (g : PFw c1 c2) : PFw c c2 := ⟨h.1.tr g.1, fun b b1 b2 k => (g.2.1 b b1 b2 k).trans (h.2.1 b b1 b2 k), fun k hk => (g.2.2 k hk).trans (h.2.2 k hk)⟩
theorem PF0.w {c c' : zC} (h : PF0 c c') : PFw c c' := ⟨h.1, fun b b1 _ k => h.2.1 b b1 k, fun k hk => h.2.2 k (by omega)⟩
theorem MLs.p0 {c c' : zC} {l : zBL} (h : MLs c l) (g : PF0 c c') : MLs c' l := by
  have e : c' 684 = c 684 := funext (g.2.1 684 (by decide))
  unfold MLs
  rw [e, g.2.2 10 (by decide)]
  exact h
section
variable {c : zC} {B : Int → Int} {n ca : Int} {s : tS} (d : Nat)
theorem Pc.readsWord {l : zBL} (h : Pc c B n s) (hl : s.2.1 = -1 → MLs c l) (hl0 : c 681 10 = (l.length : Int) ∨ s.2.1 ≠ -1) (sec : Int) : ∃ c', zrun zTab (d + 6) 165 [681, sec] c = some (0, c') ∧ Pc c' B n (tWrd B n (l.length < 20) s).2 ∧ PFw c c' ∧ ((tWrd B n (l.length < 20) s).2.2.1 = -1 → MLs c' (l ++ [((tWrd B n (l.length < 20) s).1, sec)])) := by
  have mo := h.1
  -- at 29 with a fault
  have bad : ∀ (c1 : zC) (s1 : tS), Pc c1 B n s1 → PF0 c c1 → s1.2.1 ≠ -1 → tWrd B n (l.length < 20) s = tLets B n 10 s1 → ∃ c', zex zc_X12_readsWord zk_X12_readsWord (zrun zTab (d + 5)) 19999 29 [(2, 681), (0, sec), (3, 0)] [] c1 = some ((0 : Int), c') ∧ Pc c' B n (tWrd B n (l.length < 20) s).2 ∧ PFw c c' ∧ ((tWrd B n (l.length < 20) s).2.2.1 = -1 → MLs c' (l ++ [((tWrd B n (l.length < 20) s).1, sec)])) := fun c1 s1 h1 pf ne e => by
    have e2 : tWrd B n (l.length < 20) s = (0, s1) := by rw [e]; exact tLet_stop ne 80 0 0
    rw [e2, ze_X12_readsWord_29, if_pos h1.1.k, if_neg (fun q => ne (h1.neg.mp q))]
    exact ⟨c1, rfl, h1, pf.w, fun q => absurd q ne⟩
  rw [ze_X12_readsWord, if_pos mo.k, h.isLetter (d + 3), zbnd_some]
  by_cases e : s.2.1 = -1
  · obtain ⟨l1, l2, l3⟩ := hl e
    by_cases x : tAt B n s
    · rw [if_pos ((h.at e).mpr x), if_neg (by decide), if_pos mo.k, l1]
      by_cases y : l.length < 20
      · have ew : tWrd B n (l.length < 20) s = tWrd B n True s := by unfold tWrd; rw [if_pos x, if_pos x, if_pos y, if_pos trivial]
        obtain ⟨c2, q1, q2, q3, q4⟩ := h.word d (R := 684) (a := 12 * l.length + 1) (Or.inl rfl) (by omega) (by unfold rowSz; rw [if_pos rfl]; omega)
        obtain ⟨w1, w2⟩ := q4 x
        have mo2 := q2.1
        have ms3 : MS c2 (zup c2 684 (12 * l.length) sec) := (MS.rf c2).up (by omega) (Or.inl (by decide))
        have ms4 : MS c2 (zup (zup c2 684 (12 * l.length) sec) 681 10 (l.length + 1)) := ms3.up (by decide) (Or.inr (by decide))
        have e10 : c2 681 10 = (l.length : Int) := by rw [q3.2.2.1 10 (by decide)]; exact l1
        have o : ∀ k, k ≠ 10 → zup (zup c2 684 (12 * l.length) sec) 681 10 ((l.length : Int) + 1) 681 k = c2 681 k := fun k hk => by rw [zup_ne (by omega), zup_ne (by omega)]
        have oR : ∀ k, k ≠ 12 * (l.length : Int) → zup (zup c2 684 (12 * l.length) sec) 681 10 ((l.length : Int) + 1) 684 k = c2 684 k := fun k hk => by rw [zup_ne (by omega), zup_ne (by omega)]
        rw [if_neg (by omega), ze_X12_readsWord_29, if_pos mo.k, if_pos (h.neg.mpr e), if_pos mo.k, if_pos mo.k, if_pos mo.k, mo.f.2.2.1, l1, zmul_id (by omega) (by omega), zadd_id (by omega) (by omega), q1, zbnd_some, if_pos mo2.k, mo2.f.2.2.1, if_pos (mo2.r684 (by omega) (by omega)), if_pos (mo2.ms ms3).k, if_pos (mo2.ms ms3).k, show zup c2 684 (12 * (l.length : Int)) sec 681 10 = (l.length : Int) by rw [zup_ne (by omega)]; exact e10, zadd_id (by omega) (by omega), ew]
        refine ⟨_, rfl, ?_, ?_, fun _ => ?_⟩
        · obtain ⟨g1, g2, ⟨g3, g4, g5, g6, g7⟩, g8⟩ := q2
          exact ⟨g1.ms ms4, g2.same (o 4 (by decide)) (fun j => by rw [zup_ne (by omega), zup_ne (by omega)]), ⟨by rw [o 6 (by decide)]; exact g3, fun q => by rw [o 5 (by decide)]; exact g4 q, fun q => by rw [o 7 (by decide)]; exact g5 q, by rw [o 5 (by decide)]; exact g6, g7⟩, g8⟩
        · exact ⟨q3.1.tr ms4, fun b b1 b2 k => by rw [zup_ne (by omega), zup_ne (by omega)]; exact q3.2.1 b b1 b2 k, fun k hk => by rw [o k (by omega)]; exact q3.2.2.1 k (by omega)⟩
        · refine ⟨by rw [zup_eq ⟨rfl, rfl⟩, List.length_append]; rfl, by rw [List.length_append]; show l.length + 1 ≤ 20; omega, fun i hi => ?_⟩
          rw [List.length_append] at hi
          have hi : i < l.length + 1 := hi
          by_cases u : i < l.length
          · obtain ⟨a1, a2, a3⟩ := l3 i u
            have ek : ∀ k, 0 ≤ k → k ≤ 10 → zup (zup c2 684 (12 * l.length) sec) 681 10 ((l.length : Int) + 1) 684 (12 * i + 1 + k) = c 684 (12 * i + 1 + k) := fun k k0 k1 => by rw [oR _ (by omega), q3.2.2.2 _ (by omega)]
            have m := a2.eq ek
            rw [zgetD_app u]
            exact ⟨by rw [oR _ (by omega), q3.2.2.2 _ (by omega)]; exact a1, m.1, m.2.trans a3⟩
          · obtain rfl : i = l.length := by omega
            have eg : (l ++ [((tWrd B n True s).1, sec)]).getD l.length (0, 0) = ((tWrd B n True s).1, sec) := by simp
            have ek : ∀ k, 0 ≤ k → k ≤ 10 → zup (zup c2 684 (12 * l.length) sec) 681 10 ((l.length : Int) + 1) 684 (12 * l.length + 1 + k) = c2 684 (12 * l.length + 1 + k) := fun k k0 k1 => oR _ (by omega)
            have m := w1.eq ek
            rw [eg]
            exact ⟨by rw [zup_ne (by omega), zup_eq ⟨rfl, rfl⟩], m.1, m.2.trans w2⟩
      · obtain ⟨c1, q1, q2, q3⟩ := h.fails (d + 4) 3
        rw [if_pos (by omega), if_pos mo.k, q1, zbnd_some]
        exact bad c1 _ q2 q3 (tFail_ne h.2.2.2.1 (Or.inl e)) (by unfold tWrd; rw [if_pos x, if_neg y])
    · obtain ⟨c1, q1, q2, q3⟩ := h.fails (d + 4) 1
      rw [if_neg (fun q => x ((h.at e).mp q)), if_pos rfl, if_pos mo.k, q1, zbnd_some]
      exact bad c1 _ q2 q3 (tFail_ne h.2.2.2.1 (Or.inl e)) (by unfold tWrd; rw [if_neg x])
  · have x : ¬ tAt B n s := fun q => e q.1
    have ef : ∀ w, tFail w s = s := fun w => by unfold tFail; rw [if_neg e]
    have ew : tWrd B n (l.length < 20) s = tLets B n 10 s := by unfold tWrd; rw [if_neg x, ef]
    by_cases y : 97 ≤ hv2 c ∧ hv2 c ≤ 122
    · rw [if_pos y, if_neg (by decide), if_pos mo.k]
      by_cases z : c 681 10 = 20
      · obtain ⟨c1, q1, q2, q3⟩ := h.fails (d + 4) 3
        rw [ef] at q2
        rw [if_pos z, if_pos mo.k, q1, zbnd_some]
        exact bad c1 s q2 q3 e ew
      · rw [if_neg z]
        exact bad c s h (PF0.rf c) e ew
    · obtain ⟨c1, q1, q2, q3⟩ := h.fails (d + 4) 1
      rw [ef] at q2
      rw [if_neg y, if_pos rfl, if_pos mo.k, q1, zbnd_some]
      exact bad c1 s q2 q3 e ew
/-- a reading ends: what is left over is wrong; the tape is empty then -/
theorem Pc.isWrong (h : Pc c B n s) : ∃ c', zrun zTab (d + 2) 164 [681] c = some (if (tEnd B n s).2.1 = -1 then 0 else 1, c') ∧ MS c c' ∧ (∀ b, b ≠ 681 → ∀ k, c' b k = c b k) ∧ (∀ k, (k < 4 ∨ 8 < k) → c' 681 k = c 681 k) ∧ c' 681 4 = 0 ∧ c' 681 6 = (tEnd B n s).2.1 ∧ c' 681 8 = (if (tEnd B n s).2.1 = -1 then c 681 8 else (tEnd B n s).2.2) := by
  have mo := h.1
  have key : ∀ (c1 : zC) (s1 : tS), Pc c1 B n s1 → PF0 c c1 → tEnd B n s = s1 → ∃ c', zex zc_X12_isWrong zk_X12_isWrong (zrun zTab (d + 1)) 19999 23 [(2, 681)] [] c1 = some (if (tEnd B n s).2.1 = -1 then (0 : Int) else 1, c') ∧ MS c c' ∧ (∀ b, b ≠ 681 → ∀ k, c' b k = c b k) ∧ (∀ k, (k < 4 ∨ 8 < k) → c' 681 k = c 681 k) ∧ c' 681 4 = 0 ∧ c' 681 6 = (tEnd B n s).2.1 ∧ c' 681 8 = (if (tEnd B n s).2.1 = -1 then c 681 8 else (tEnd B n s).2.2) := fun c1 s1 h1 pf e => by
    have ms1 : MS c1 (zup c1 681 4 0) := (MS.rf c1).up (by decide) (Or.inr (by decide))
    have m1 := h1.1.ms ms1
    have e6 : zup c1 681 4 0 681 6 = c1 681 6 := zup_ne (by omega)
    rw [e, ze_X12_isWrong_23, if_pos h1.1.k, if_pos m1.k, e6]
    by_cases x : s1.2.1 = -1
    · rw [if_pos (h1.neg.mpr x), if_pos m1.k, if_pos (h1.neg.mpr x), if_pos x, if_pos x]
      refine ⟨_, rfl, pf.1.tr ms1, fun b hb k => by rw [zup_ne (by omega)]; exact pf.2.1 b hb k, fun k hk => ?_, zup_eq ⟨rfl, rfl⟩, by rw [e6]; exact h1.2.2.1.1, by rw [zup_ne (by omega)]; exact pf.2.2 8 (by decide)⟩
      rw [zup_ne (by omega)]
      exact pf.2.2 k (by omega)
    · have ms2 : MS c1 (zup (zup c1 681 4 0) 681 8 (zup c1 681 4 0 681 7)) := ms1.up (by decide) (Or.inr (by decide))
      have e62 : zup (zup c1 681 4 0) 681 8 (zup c1 681 4 0 681 7) 681 6 = c1 681 6 := by rw [zup_ne (by omega), e6]
      have e7 : zup c1 681 4 0 681 7 = s1.2.2 := by rw [zup_ne (by omega)]; exact h1.2.2.1.2.2.1 x
      rw [if_neg (fun q => x (h1.neg.mp q)), if_pos m1.k, if_pos m1.k, if_pos (h1.1.ms ms2).k, e62, if_neg (fun q => x (h1.neg.mp q)), if_neg x, if_neg x]
      refine ⟨_, rfl, pf.1.tr ms2, fun b hb k => by rw [zup_ne (by omega), zup_ne (by omega)]; exact pf.2.1 b hb k, fun k hk => ?_, by rw [zup_ne (by omega), zup_eq ⟨rfl, rfl⟩], by rw [e62]; exact h1.2.2.1.1, by rw [zup_eq ⟨rfl, rfl⟩, e7]⟩
      rw [zup_ne (by omega), zup_ne (by omega)]
      exact pf.2.2 k (by omega)
  obtain ⟨-, ⟨b1, b2, b3⟩, ⟨m1, m2, -, -, -⟩, t1, t2⟩ := id h
  rw [ze_X12_isWrong, if_pos mo.k]
  by_cases e : s.2.1 = -1
  · rw [if_pos (h.neg.mpr e), if_pos mo.k, if_pos mo.k, m2 e, b1]
    by_cases x : s.1 < n
    · obtain ⟨c1, q1, q2, q3⟩ := h.fails (d + 0) 1
      obtain ⟨c1, q1, q2, q3⟩ := h.fails d 1
      have ne : ¬ tCm B n (-1) s := fun q => by
        have q2 := q.2
        unfold tB at q2
        rw [if_pos ⟨t1, x⟩] at q2
        have := b3 s.1 t1 x
        omega
      rw [if_pos x, if_pos mo.k, q1, zbnd_some]
      exact key c1 _ q2 q3 (by unfold tEnd; rw [if_neg ne])
    · have eq : tCm B n (-1) s := ⟨e, by unfold tB; rw [if_neg (fun q => x q.2)]⟩
      rw [if_neg x]
      exact key c s h (PF0.rf c) (by unfold tEnd; rw [if_pos eq])
  · have ne : ¬ tCm B n (-1) s := fun q => e q.1
    rw [if_neg (fun q => e (h.neg.mp q))]
    exact key c s h (PF0.rf c) (by unfold tEnd tFail; rw [if_neg ne, if_neg e])
end
