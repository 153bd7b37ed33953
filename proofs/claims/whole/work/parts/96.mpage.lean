/-! The reference: a page is read, one word is read. -/
section
variable {B : Int → Int} {n ca : Int} {s : tS}
theorem tAft_stop (h : s.2.1 ≠ -1) (t : Nat) (sec : Int) (l : zBL) : tAft B n t sec l s = (l, s) := by
  unfold tAft
  rw [if_neg (fun q => h q.1), tDem_stop h, if_neg (fun q => h q.1), tSec_stop h]
theorem tDem_ok {v : Int} (hs : 0 ≤ s.1) (h : (tDem B n v s).2.1 = -1) (e : s.2.1 = -1) : tCm B n v s ∧ tDem B n v s = (s.1 + 1, s.2) := by
  unfold tDem at h ⊢
  by_cases x : tCm B n v s
  · rw [if_pos x]; exact ⟨x, rfl⟩
  · rw [if_neg x] at h
    exact absurd h (tFail_ne hs (Or.inl e))
theorem tAdd_eq {sec : Int} {l : zBL} (h : l.length < 20) : tAdd B n sec l s = l ++ [((tWrd B n (l.length < 20) s).1, sec)] := if_pos h
end
section
variable {c : zC} {B : Int → Int} {n ca : Int} {s : tS} (d : Nat)
theorem Pc.page_7 : ∀ (t F : Nat) (sec : Int) (l : zBL) (s : tS) (c : zC), t + 1 ≤ F → Pc c B n s → (0 ≤ sec ∧ sec ≤ 3) → (s.2.1 = -1 → MLs c l ∧ Srt l sec ∧ 80 ≤ s.1 + t) → ∃ c', zex zc_X12_readsPage zk_X12_readsPage (zrun zTab (d + 6)) F 7 [(2, 681), (0, sec)] [] c = some (0, c') ∧ Pc c' B n (tAft B n t sec l s).2 ∧ PFw c c' ∧ ((tAft B n t sec l s).2.2.1 = -1 → MLs c' (tAft B n t sec l s).1 ∧ Srt (tAft B n t sec l s).1 3 ∧ n ≤ (tAft B n t sec l s).2.1) := by
  intro t
  induction t with
  | zero =>
    intro F sec l s c hF h hsec hl
    obtain ⟨F, rfl⟩ : ∃ G, F = G + 1 := ⟨F - 1, by omega⟩
    have mo := h.1
    rw [ze_X12_readsPage_7, if_pos mo.k]
    by_cases e : s.2.1 = -1
    · obtain ⟨l1, l2, l3⟩ := hl e
      have n80 := h.2.1.2.1
      have e5 := h.2.2.1.2.1 e
      have en : tCm B n (-1) s := ⟨e, by unfold tB; rw [if_neg (by omega)]⟩
      have ea : tAft B n 0 sec l s = (l, s) := if_pos en
      rw [if_pos (h.neg.mpr e), if_pos mo.k, if_pos mo.k, e5, h.2.1.1, if_neg (by omega), ea]
      exact ⟨c, rfl, h, PFw.rf c, fun _ => ⟨l1, l2.mono hsec.2, by show n ≤ s.1; omega⟩⟩
    · rw [if_neg (fun q => e (h.neg.mp q)), tAft_stop e]
      exact ⟨c, rfl, h, PFw.rf c, fun q => absurd q e⟩
  | succ t ih =>
    intro F sec l s c hF h hsec hl
    obtain ⟨F, rfl⟩ : ∃ G, F = G + 1 := ⟨F - 1, by omega⟩
    have mo := h.1
    rw [ze_X12_readsPage_7, if_pos mo.k]
    by_cases e : s.2.1 = -1
    · obtain ⟨l1, l2, l3⟩ := hl e
      have n80 := h.2.1.2.1
      have e5 := h.2.2.1.2.1 e
      have ti := h.2.2.2
      rw [if_pos (h.neg.mpr e), if_pos mo.k, if_pos mo.k, e5, h.2.1.1]
      by_cases x : s.1 < n
      · have ne : ¬ tCm B n (-1) s := fun q => by
          have q2 := q.2
          unfold tB at q2
          rw [if_pos ⟨ti.1, x⟩] at q2
          have := h.2.1.2.2 s.1 ti.1 x
          omega
        obtain ⟨c2, q1, q2, q3⟩ := h.wants (d + 3) (v := 32) (by decide)
        have a1 : tAft B n (t + 1) sec l s = (if tCm B n 47 (tDem B n 32 s) then tSec B n (t + 1) (sec + 1) l (tDem B n 32 (tDem B n 47 (tSl sec (tDem B n 32 s)))) else tSec B n (t + 1) sec l (tDem B n 32 s)) := if_neg ne
        -- a word is read, and on
        have word : ∀ (c3 : zC) (s3 : tS) (sc : Int), Pc c3 B n s3 → PFw c c3 → s3.2.1 = -1 → MLs c3 l → s.1 ≤ s3.1 → sec ≤ sc → sc ≤ 3 → ∃ c', (zbnd (zrun zTab (d + 6) 165 [681, sc] c3) (fun _ c10 => zex zc_X12_readsPage zk_X12_readsPage (zrun zTab (d + 6)) F 7 [(2, 681), (0, sc)] [] c10)) = some ((0 : Int), c') ∧ Pc c' B n (tSec B n (t + 1) sc l s3).2 ∧ PFw c c' ∧ ((tSec B n (t + 1) sc l s3).2.2.1 = -1 → MLs c' (tSec B n (t + 1) sc l s3).1 ∧ Srt (tSec B n (t + 1) sc l s3).1 3 ∧ n ≤ (tSec B n (t + 1) sc l s3).2.1) := fun c3 s3 sc h3 pf e3 m3 hp hsc hsc2 => by
          obtain ⟨c4, r1, r2, r3, r4⟩ := h3.readsWord d (fun _ => m3) (Or.inl m3.1) sc
          obtain ⟨c5, u1, u2, u3, u4⟩ := ih F sc (tAdd B n sc l s3) (tWrd B n (l.length < 20) s3).2 c4 (by omega) r2 ⟨by omega, hsc2⟩ (fun q => by
            obtain ⟨v1, v2, v3⟩ := tWrd_adv h3.2.2.2 (Or.inl e3) q
            rw [tAdd_eq v2]
            exact ⟨r4 q, (l2.mono hsc).app (by omega), by omega⟩)
          rw [tSec_aft e3]
          exact ⟨c5, by rw [r1, zbnd_some]; exact u1, u2, (pf.tr r3).tr u3, u4⟩
        -- nothing more where something is wrong
        have stop : ∀ (c3 : zC) (s3 : tS) (sc sc2 : Int), Pc c3 B n s3 → PFw c c3 → s3.2.1 ≠ -1 → (0 ≤ sc ∧ sc ≤ 3) → ∃ c', zex zc_X12_readsPage zk_X12_readsPage (zrun zTab (d + 6)) F 7 [(2, 681), (0, sc)] [] c3 = some ((0 : Int), c') ∧ Pc c' B n (tSec B n (t + 1) sc2 l s3).2 ∧ PFw c c' ∧ ((tSec B n (t + 1) sc2 l s3).2.2.1 = -1 → MLs c' (tSec B n (t + 1) sc2 l s3).1 ∧ Srt (tSec B n (t + 1) sc2 l s3).1 3 ∧ n ≤ (tSec B n (t + 1) sc2 l s3).2.1) := fun c3 s3 sc sc2 h3 pf e3 hsc => by
          obtain ⟨c5, u1, u2, u3, u4⟩ := ih F sc l s3 c3 (by omega) h3 hsc (fun q => absurd q e3)
          rw [tAft_stop e3] at u2 u4
          rw [tSec_stop e3]
          exact ⟨c5, u1, u2, pf.tr u3, fun q => absurd q e3⟩
        have mo2 := q2.1
        rw [if_pos x, if_pos mo.k, q1, zbnd_some, if_pos mo2.k, a1]
        by_cases e2 : (tDem B n 32 s).2.1 = -1
        · obtain ⟨y1, y2⟩ := tDem_ok ti.1 e2 e
          have m2 := l1.p0 q3
          rw [if_pos (q2.neg.mpr e2), if_pos mo2.k, q2.here (d + 5), zbnd_some, q2.hv e2]
          by_cases z : tB B n (tDem B n 32 s).1 = 47
          · have cm : tCm B n 47 (tDem B n 32 s) := ⟨e2, z⟩
            have pl := tCm_pl cm (by decide)
            rw [if_pos z, if_pos cm]
            by_cases w : sec = 3
            · obtain ⟨c3, r1, r2, r3⟩ := q2.fails (d + 5) 3
              have ef : tSl sec (tDem B n 32 s) = tFail 3 (tDem B n 32 s) := by unfold tSl; rw [if_neg (by omega)]
              have nf : (tFail 3 (tDem B n 32 s)).2.1 ≠ -1 := tFail_ne q2.2.2.2.1 (Or.inl e2)
              rw [if_pos w, if_pos mo2.k, r1, zbnd_some, ef, tDem_stop nf, tDem_stop nf, tSec_stop nf]
              exact ⟨c3, rfl, r2, q3.w.tr r3.w, fun q => absurd q nf⟩
            · have ef : tSl sec (tDem B n 32 s) = tDem B n 32 s := by unfold tSl; rw [if_pos (by omega)]
              have ed : tDem B n 47 (tDem B n 32 s) = ((tDem B n 32 s).1 + 1, (tDem B n 32 s).2) := by
                show (if tCm B n 47 (tDem B n 32 s) then _ else _) = _
                rw [if_pos cm]
              obtain ⟨h3, pf3⟩ := q2.step e2 pl.2
              have e55 := q2.2.2.1.2.1 e2
              obtain ⟨c4, r1, r2, r3⟩ := h3.wants (d + 3) (v := 32) (by decide)
              rw [if_neg w, if_pos mo2.k, if_pos mo2.k, zadd_id (by omega) (by omega), if_pos h3.1.k, r1, zbnd_some, if_pos r2.1.k, zw_id' (by omega) (by omega), ef, ed]
              have pf4 : PFw c c4 := (q3.w.tr pf3.w).tr r3.w
              by_cases e4 : (tDem B n 32 ((tDem B n 32 s).1 + 1, (tDem B n 32 s).2)).2.1 = -1
              · rw [if_pos (r2.neg.mpr e4), if_pos r2.1.k]
                obtain ⟨-, y3⟩ := tDem_ok (s := ((tDem B n 32 s).1 + 1, (tDem B n 32 s).2)) h3.2.2.2.1 e4 e2
                exact word c4 _ (sec + 1) r2 pf4 e4 ((m2.p0 pf3).p0 r3) (by
                  rw [y3, y2]
                  show s.1 ≤ s.1 + 1 + 1 + 1
                  omega) (by omega) (by omega)
              · rw [if_neg (fun q => e4 (r2.neg.mp q))]
                exact stop c4 _ (sec + 1) (sec + 1) r2 pf4 e4 (by omega)
          · have cm : ¬ tCm B n 47 (tDem B n 32 s) := fun q => z q.2
            rw [if_neg z, if_neg cm, if_pos mo2.k, if_pos (q2.neg.mpr e2), if_pos mo2.k]
            exact word c2 _ sec q2 q3.w e2 m2 (by
              rw [y2]
              show s.1 ≤ s.1 + 1
              omega) (by omega) (by omega)
        · have cm : ¬ tCm B n 47 (tDem B n 32 s) := fun q => e2 q.1
          rw [if_neg (fun q => e2 (q2.neg.mp q)), if_pos mo2.k, if_neg (fun q => e2 (q2.neg.mp q)), if_neg cm]
          exact stop c2 _ sec sec q2 q3.w e2 hsec
      · have en : tCm B n (-1) s := ⟨e, by unfold tB; rw [if_neg (fun q => x q.2)]⟩
        have ea : tAft B n (t + 1) sec l s = (l, s) := if_pos en
        rw [if_neg x, ea]
        exact ⟨c, rfl, h, PFw.rf c, fun _ => ⟨l1, l2.mono hsec.2, by show n ≤ s.1; omega⟩⟩
    · rw [if_neg (fun q => e (h.neg.mp q)), tAft_stop e]
      exact ⟨c, rfl, h, PFw.rf c, fun q => absurd q e⟩
theorem Srt_nil (a : Int) : Srt [] a := ⟨fun i j _ hj => absurd hj (Nat.not_lt_zero j), fun i hi => absurd hi (Nat.not_lt_zero i)⟩
theorem Pc.readsPage (h : Pc c B n (0, -1, ca)) (hl : MLs c []) : ∃ c', zrun zTab (d + 7) 166 [681] c = some (0, c') ∧ Pc c' B n (tSec B n 80 0 [] (0, -1, ca)).2 ∧ PFw c c' ∧ ((tSec B n 80 0 [] (0, -1, ca)).2.2.1 = -1 → MLs c' (tSec B n 80 0 [] (0, -1, ca)).1 ∧ Srt (tSec B n 80 0 [] (0, -1, ca)).1 3 ∧ n ≤ (tSec B n 80 0 [] (0, -1, ca)).2.1) := by
  obtain ⟨c1, q1, q2, q3, q4⟩ := h.readsWord d (fun _ => hl) (Or.inl hl.1) 0
  have e : tSec B n 80 0 [] (0, -1, ca) = tAft B n 79 0 (tAdd B n 0 [] (0, -1, ca)) (tWrd B n (([] : zBL).length < 20) (0, -1, ca)).2 := tSec_aft rfl
  obtain ⟨c2, r1, r2, r3, r4⟩ := Pc.page_7 d 79 19999 0 (tAdd B n 0 [] (0, -1, ca)) (tWrd B n (([] : zBL).length < 20) (0, -1, ca)).2 c1 (by omega) q2 (by decide) (fun q => by
    obtain ⟨v1, v2, v3⟩ := tWrd_adv h.2.2.2 (Or.inl rfl) q
    rw [tAdd_eq v2]
    exact ⟨q4 q, (Srt_nil 0).app (Int.le_refl 0), by
      have v3 : (0 : Int) + 1 ≤ (tWrd B n (([] : zBL).length < 20) (0, -1, ca)).2.1 := v3
      omega⟩)
  rw [e]
  refine ⟨c2, ?_, r2, q3.tr r3, r4⟩
  rw [ze_X12_readsPage, if_pos h.1.k, q1, zbnd_some]
  exact r1
end
section
variable {c : zC} {σ : aS} (d : Nat)
theorem MB.t {f : Int → Int} {m lc : Int} {tp : Int × (Int → Int) × Int} (h : MB f m lc tp) : tp.1 = m ∧ (0 ≤ m ∧ m ≤ 80) ∧ ∀ k, 0 ≤ k → k < m → f k = tp.2.1 k ∧ 0 ≤ f k ∧ f k ≤ 127 := ⟨h.1.symm, h.2.1, h.2.2.1⟩
/-- a reading begins -/
theorem RM.begins (h : RM c σ) : ∃ c', zrun zTab (d + 1) 163 [681] c = some (0, c') ∧ Pc c' σ.2.2.2.1.2.1 σ.2.2.2.1.1 (0, -1, σ.2.2.2.1.2.2) ∧ MLs c' [] ∧ PFw c c' := by
  obtain ⟨mo, -, mb, -⟩ := id h
  obtain ⟨t1, t2, t3⟩ := mb.t
  have ms1 : MS c (zup c 681 5 0) := (MS.rf c).up (by decide) (Or.inr (by decide))
  have ms2 : MS c (zup (zup c 681 5 0) 681 6 (-1)) := ms1.up (by decide) (Or.inr (by decide))
  have ms3 : MS c (zup (zup (zup c 681 5 0) 681 6 (-1)) 681 7 0) := ms2.up (by decide) (Or.inr (by decide))
  have ms4 : MS c (zup (zup (zup (zup c 681 5 0) 681 6 (-1)) 681 7 0) 681 10 0) := ms3.up (by decide) (Or.inr (by decide))
  have o : ∀ b k, (b ≠ 681 ∨ k < 5 ∨ 7 < k ∧ k ≠ 10) → zup (zup (zup (zup c 681 5 0) 681 6 (-1)) 681 7 0) 681 10 0 b k = c b k := fun b k q => by rw [zup_ne (by omega), zup_ne (by omega), zup_ne (by omega), zup_ne (by omega)]
  rw [ze_X12_begins, if_pos mo.k, if_pos (mo.ms ms1).k, if_pos (mo.ms ms2).k, if_pos (mo.ms ms3).k]
  refine ⟨_, rfl, ⟨mo.ms ms4, ⟨by rw [o 681 4 (by omega)]; exact t1.symm, by rw [t1]; exact t2, fun k k0 k1 => by rw [o 683 k (by omega)]; exact t3 k k0 (by rw [← t1]; exact k1)⟩, ⟨?_, fun _ => ?_, fun q => absurd rfl q, ?_, Or.inl rfl⟩, Int.le_refl 0, by show 0 ≤ σ.2.2.2.1.1; rw [t1]; exact t2.1⟩, ⟨zup_eq ⟨rfl, rfl⟩, by decide, fun i hi => absurd hi (Nat.not_lt_zero i)⟩, ms4, fun b b1 b2 k => o b k (by omega), fun k hk => o 681 k (by omega)⟩
  · rw [zup_ne (by omega), zup_ne (by omega), zup_eq ⟨rfl, rfl⟩]
  · rw [zup_ne (by omega), zup_ne (by omega), zup_ne (by omega), zup_eq ⟨rfl, rfl⟩]
  · rw [zup_ne (by omega), zup_ne (by omega), zup_ne (by omega), zup_eq ⟨rfl, rfl⟩]; exact Int.le_refl 0
/-- a reading has ended -/
theorem RM.ends {c1 c2 : zC} {s : tS} (h : RM c σ) (ms : MS c c2) (e12 : ∀ k, (k = 1 ∨ k = 2 ∨ (24 ≤ k ∧ k ≤ 27)) → c2 681 k = c 681 k) (e682 : ∀ k, c2 682 k = c 682 k) (e4 : c2 681 4 = 0) (e8 : c2 681 8 = if s.2.1 = -1 then c 681 8 else s.2.2) (hk : tK σ.2.2.2.1.2.2 s) : RM c2 (aRd σ s) := by
  refine h.tp ms e12 e682 ⟨e4, by rw [e4]; decide, fun k k0 k1 => by rw [e4] at k1; omega, ?_⟩
  have m4 := h.2.2.1.2.2.2
  rw [e8]
  show _ ∧ s.2.2 = -5 ∨ _ ∧ s.2.2 = _
  rcases hk with ⟨k1, k2⟩ | ⟨k1, k2, k3⟩
  · rw [if_pos k1, k2]; exact m4
  · rw [if_neg (by omega)]; exact Or.inr ⟨⟨k2, k3⟩, rfl⟩
/-- one word is read -/
theorem RM.oneWord (h : RM c σ) : ∃ c', zrun zTab (d + 7) 187 [681] c = some (if (tOne σ.2.2.2.1.2.1 σ.2.2.2.1.1 σ.2.2.2.1.2.2).2.2.1 = -1 then 1 else 0, c') ∧ RM c' (aRd σ (tOne σ.2.2.2.1.2.1 σ.2.2.2.1.1 σ.2.2.2.1.2.2).2) ∧ c' 681 6 = (tOne σ.2.2.2.1.2.1 σ.2.2.2.1.1 σ.2.2.2.1.2.2).2.2.1 ∧ ((tOne σ.2.2.2.1.2.1 σ.2.2.2.1.1 σ.2.2.2.1.2.2).2.2.1 = -1 → mWd (c' 684) 1 ∧ mV (c' 684) 1 = (tOne σ.2.2.2.1.2.1 σ.2.2.2.1.1 σ.2.2.2.1.2.2).1) ∧ (∀ k, c' 682 k = c 682 k) ∧ zlo c c' := by
  obtain ⟨c1, q1, q2, q3, q4⟩ := h.begins (d + 5)
  obtain ⟨c2, r1, r2, r3, r4⟩ := q2.readsWord d (fun _ => q3) (Or.inl q3.1) 0
  have ew : ∀ B n s, tWrd B n (([] : zBL).length < 20) s = tWrd B n True s := fun B n s => by unfold tWrd; rw [if_pos (show ([] : zBL).length < 20 by decide), if_pos trivial]
  rw [ew] at r2 r4
  obtain ⟨c3, u1, u2, u3, u4, u5, u6, u7⟩ := r2.isWrong (d + 4)
  have e7 : (tOne σ.2.2.2.1.2.1 σ.2.2.2.1.1 σ.2.2.2.1.2.2).2 = tEnd σ.2.2.2.1.2.1 σ.2.2.2.1.1 (tWrd σ.2.2.2.1.2.1 σ.2.2.2.1.1 True (0, -1, σ.2.2.2.1.2.2)).2 := rfl
  rw [e7]
  have tg := ((tG.start (ca := σ.2.2.2.1.2.2) q2.2.1.2.1.1).wrd (B := σ.2.2.2.1.2.1) (room := True)).tend (B := σ.2.2.2.1.2.1)
  have fr : PFw c c2 := q4.tr r3
  have e682 : ∀ k, c3 682 k = c 682 k := fun k => by rw [u3 682 (by decide), fr.2.1 682 (by decide) (by decide)]
  have nofault : (tEnd σ.2.2.2.1.2.1 σ.2.2.2.1.1 (tWrd σ.2.2.2.1.2.1 σ.2.2.2.1.1 True (0, -1, σ.2.2.2.1.2.2)).2).2.1 = -1 → (tWrd σ.2.2.2.1.2.1 σ.2.2.2.1.1 True (0, -1, σ.2.2.2.1.2.2)).2.2.1 = -1 := fun q => by
    unfold tEnd at q
    split at q
    · exact q
    · exact absurd q (tFail_ne r2.2.2.2.1 r2.2.2.1.2.2.2.2)
  have hR := RM.ends (c1 := c) (c2 := c3) h ((fr.1).tr u2) (fun k hk => by rw [u4 k (by omega), fr.2.2 k (by omega)]) e682 u5 (by rw [u7, fr.2.2 8 (by omega)]) tg.2
  refine ⟨c3, ?_, hR, u6, fun q => ?_, e682, fun b hb k => by rw [u3 b (by omega), fr.2.1 b (by omega) (by omega)]⟩
  · rw [ze_X12_isOneWord, if_pos h.1.k, q1, zbnd_some, if_pos q2.1.k, r1, zbnd_some, if_pos r2.1.k, u1, zbnd_some]
    by_cases e : (tEnd σ.2.2.2.1.2.1 σ.2.2.2.1.1 (tWrd σ.2.2.2.1.2.1 σ.2.2.2.1.1 True (0, -1, σ.2.2.2.1.2.2)).2).2.1 = -1
    · rw [if_pos e, if_pos rfl, if_pos e]
    · rw [if_neg e, if_neg (by decide), if_neg e]
  · obtain ⟨-, -, m3⟩ := r4 (nofault q)
    obtain ⟨-, a2, a3⟩ := m3 0 Nat.zero_lt_one
    have e684 : c3 684 = c2 684 := funext (u3 684 (by decide))
    rw [e684]
    exact ⟨a2, a3⟩
end
