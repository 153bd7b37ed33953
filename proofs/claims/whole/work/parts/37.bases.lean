/-! The class's bases. -/
/-- the cells of an object of bases hold a list -/
def BLat (c : zC) (B : Int) (l : zBL) : Prop := c B 2 = (l.length : Int) ∧ ∀ b : Nat, b < l.length → c (B + 1) (b : Int) = (l.getD b (0, 0)).1 ∧ c (B + 2) (b : Int) = (l.getD b (0, 0)).2
def BShape (c : zC) (B : Int) : Prop := c B (-1) = 1 ∧ c B 0 = B + 1 ∧ c B 1 = B + 2 ∧ LArr c (B + 1) 101 43 ∧ LArr c (B + 2) 100 43
def BFr (c c' : zC) (B : Int) : Prop := (∀ b, (b < B ∨ B + 2 < b) → ∀ k, c' b k = c b k) ∧ (∀ b k, k < 0 → c' b k = c b k) ∧ c' B 0 = c B 0 ∧ c' B 1 = c B 1
theorem BFr.rf (c : zC) (B : Int) : BFr c c B := ⟨fun _ _ _ => rfl, fun _ _ _ => rfl, rfl, rfl⟩
theorem BFr.tr {c c1 c2 : zC} {B : Int} (h : BFr c c1 B) (g : BFr c1 c2 B) : BFr c c2 B :=
  ⟨fun b hb k => (g.1 b hb k).trans (h.1 b hb k), fun b k hk => (g.2.1 b k hk).trans (h.2.1 b k hk), g.2.2.1.trans h.2.2.1, g.2.2.2.trans h.2.2.2⟩
theorem BShape.fr {c c' : zC} {B : Int} (h : BShape c B) (g : BFr c c' B) : BShape c' B := by
  obtain ⟨h1, h2, h3, h4, h5⟩ := h
  obtain ⟨g1, g2, g3, g4⟩ := g
  exact ⟨by rw [g2 _ _ (by decide)]; exact h1, by rw [g3]; exact h2, by rw [g4]; exact h3, ⟨by rw [g2 _ _ (by decide)]; exact h4.1, by rw [g2 _ _ (by decide)]; exact h4.2⟩, ⟨by rw [g2 _ _ (by decide)]; exact h5.1, by rw [g2 _ _ (by decide)]; exact h5.2⟩⟩
theorem mhas_drop {l : zBL} {j : Nat} {w : Int} (hj : j < l.length) : mhas (l.drop j) w = (decide ((l.getD j (0, 0)).1 = w) || mhas (l.drop (j + 1)) w) := by
  rw [List.drop_eq_getElem_cons hj, List.getD_eq_getElem?_getD, List.getElem?_eq_getElem hj]
  rfl
theorem zs_B_has_l (d : Nat) {B w : Int} {l : zBL} (c : zC) (h : BShape c B) (hl : BLat c B l) (hn : l.length ≤ 43) : ∀ (t : Nat) (F j : Nat), t ≤ F → j + t = l.length → zex zc_X0_has zk_X0_has (zrun zTab d) (F + 1) 2 [(2, B), (1, w), (3, 0), (0, (j : Int))] [] c = some (if mhas (l.drop j) w = true then 1 else 0, c) := by
  obtain ⟨h1, h2, h3, ⟨h4, h5⟩, ⟨h6, h7⟩⟩ := h
  obtain ⟨l1, l2⟩ := hl
  intro t
  induction t with
  | zero =>
    intro F j hF hj
    rw [ze_X0_has_2, if_pos h1, if_neg (by omega), List.drop_eq_nil_of_le (by omega), if_neg (by simp [mhas])]
  | succ t ih =>
    intro F j hF hj
    obtain ⟨F, rfl⟩ : ∃ G, F = G + 1 := ⟨F - 1, by omega⟩
    rw [ze_X0_has_2, if_pos h1, if_pos (by omega), if_pos h1, h2, if_pos h4, h5, if_pos (by omega), if_pos h1, if_pos ⟨h4, by omega, by omega⟩]
    simp only [zcmp_eq]
    rw [(l2 j (by omega)).1, mhas_drop (by omega)]
    by_cases e : (l.getD j (0, 0)).1 = w
    · rw [if_pos e, if_pos (by simp only [e]; simp)]
    · rw [if_neg e, zw_id' (by omega) (by omega), show (j : Int) + 1 = ((j + 1 : Nat) : Int) by omega, ih F (j + 1) (by omega) (by omega)]
      simp only [e, decide_false, Bool.false_or]
theorem zs_B_has (d : Nat) {B w : Int} {l : zBL} (c : zC) (h : BShape c B) (hl : BLat c B l) (hn : l.length ≤ 43) : zrun zTab (d + 1) 3 [B, w] c = some (if mhas l w = true then 1 else 0, c) := by
  rw [ze_X0_has]
  exact zs_B_has_l d c h hl hn l.length 19998 0 (by omega) (by omega)
theorem zgetD_app {l t : zBL} {j : Nat} (h : j < l.length) : (l ++ t).getD j (0, 0) = l.getD j (0, 0) := by
  rw [List.getD_eq_getElem?_getD, List.getElem?_append_left h, ← List.getD_eq_getElem?_getD]
theorem zs_B_add (d : Nat) {B w v : Int} {l : zBL} (c : zC) (h : BShape c B) (hl : BLat c B l) (hn : (madd l w v).length ≤ 43) : ∃ c', zrun zTab (d + 2) 5 [B, w, v] c = some (0, c') ∧ BLat c' B (madd l w v) ∧ BFr c c' B := by
  have hln : l.length ≤ 43 := by
    obtain ⟨t, e, -⟩ := madd_pre l w v
    rw [e] at hn; simp at hn; omega
  have hh := zs_B_has d (w := w) c h hl hln
  have h0 := h
  have hl0 := hl
  obtain ⟨h1, h2, h3, ⟨h4, h5⟩, ⟨h6, h7⟩⟩ := h
  obtain ⟨l1, l2⟩ := hl
  rw [ze_X0_add]
  simp only [zcmp_eq]
  unfold madd at hn ⊢
  by_cases e0 : w = 0
  · rw [if_pos e0, if_pos e0]
    exact ⟨c, rfl, hl0, BFr.rf c B⟩
  · rw [if_neg e0] at hn
    rw [if_neg e0, if_neg e0, if_pos h1, hh, zbnd_some]
    by_cases e1 : mhas l w = true
    · rw [if_pos e1, if_pos e1, if_neg (by decide)]
      exact ⟨c, rfl, hl0, BFr.rf c B⟩
    · rw [if_neg e1] at hn
      rw [if_neg e1, if_neg e1, if_pos rfl]
      have hn2 : l.length < 43 := by simp at hn; omega
      have e2 : c B 2 < 43 := by omega
      refine ⟨zup (zup (zup c (B + 1) (l.length : Int) w) (B + 2) (l.length : Int) v) B 2 ((l.length : Int) + 1), ?_, ?_, ?_⟩
      · rw [l1]
        clear l2 hh
        grind [zup, zadd_id]
      · refine ⟨by rw [zup_eq ⟨rfl, rfl⟩]; simp, fun b hb => ?_⟩
        have hb : b < l.length + 1 := by simpa using hb
        by_cases eb : b = l.length
        · subst eb
          rw [zup_ne (by omega), zup_ne (by omega), zup_eq ⟨rfl, rfl⟩, zup_ne (by omega), zup_eq ⟨rfl, rfl⟩, List.getD_eq_getElem?_getD]
          simp
        · have hb2 : b < l.length := by omega
          rw [zup_ne (by omega), zup_ne (by omega), zup_ne (by omega), zup_ne (by omega), zup_ne (by omega), zup_ne (by omega), zgetD_app hb2]
          exact l2 b hb2
      · refine ⟨fun b hb k => ?_, fun b k hk => ?_, ?_, ?_⟩
        · rw [zup_ne (by omega), zup_ne (by omega), zup_ne (by omega)]
        · rw [zup_ne (by omega), zup_ne (by omega), zup_ne (by omega)]
        · rw [zup_ne (by omega), zup_ne (by omega), zup_ne (by omega)]
        · rw [zup_ne (by omega), zup_ne (by omega), zup_ne (by omega)]
def RuleOK (c : zC) (Q : Int) : Prop := ∃ el rl : Nat, 1 ≤ el ∧ el ≤ 4 ∧ rl ≤ 3 ∧ c Q 2 = 5 * (el : Int) ∧ c Q 3 = 5 * (rl : Int) ∧ 0 ≤ c Q 0 ∧ c Q 0 < 32 ^ el ∧ 0 ≤ c Q 1 ∧ c Q 1 < 32 ^ rl
/-- what rule r of a state makes of a word -/
def apAt (c : zC) (S : Int) (r : Nat) (w : Int) : Int := mapp (c (c (S + 3) r) 0) (c (c (S + 3) r) 1) (c (c (S + 3) r) 2 / 5).toNat (c (c (S + 3) r) 3 / 5).toNat w
theorem mapp_lt {e r w : Int} {el rl : Nat} (h0 : 0 ≤ w) (hr : 0 ≤ r) : 0 ≤ mapp e r el rl w ∧ mapp e r el rl w < 1125899906842624 := by
  unfold mapp
  have p1 : (0 : Int) < 32 ^ el := Int.pow_pos (by decide)
  have p2 : (0 : Int) < 32 ^ rl := Int.pow_pos (by decide)
  have q1 : 0 ≤ w / 32 ^ el := Int.ediv_nonneg h0 (by omega)
  have q5 : 0 ≤ w / 32 ^ el * 32 ^ rl := Int.mul_nonneg q1 (by omega)
  split
  · rename_i h
    have h3 := h.2.2
    constructor
    · omega
    · omega
  · constructor <;> decide
theorem zs_applyAt (d : Nat) {S w : Int} {r : Nat} (c : zC) (hk : c (c (S + 3) r) (-1) = 7) (hr : RuleOK c (c (S + 3) r)) (h0 : 0 ≤ w) (h1 : w < 1125899906842624) : zrun zTab (d + 1) 60 [c (S + 3) r, w] c = some (apAt c S r w, c) ∧ 0 ≤ apAt c S r w ∧ apAt c S r w < 1125899906842624 := by
  obtain ⟨el, rl, a1, a2, a3, a4, a5, a6, a7, a8, a9⟩ := hr
  have e1 : (c (c (S + 3) r) 2 / 5).toNat = el := by omega
  have e2 : (c (c (S + 3) r) 3 / 5).toNat = rl := by omega
  unfold apAt
  rw [e1, e2]
  exact ⟨zs_applyTo d c hk a1 a2 a3 a4 a5 a6 a7 a8 a9 h0 h1, mapp_lt h0 a8⟩
/-- two heaps with the same state -/
def zsameS (c c' : zC) (S : Int) : Prop := ∀ b, S ≤ b → b < S + 38 → ∀ k, c' b k = c b k
theorem LState.same {c c' : zC} {S : Int} (h : LState c S) (g : zsameS c c' S) : LState c' S := by
  have hF := (ICp_F (S := S + 38) (np := 0) (ns := 0) (nr := 0) h (Or.inr (Int.le_refl _)) (ICp_0 c (S + 38) S))
  obtain ⟨h0, h1, h2, h3, h4, h5, h6, h7, h8, h9, h10, h11, h12, h13⟩ := h
  have e0 := g S (by omega) (by omega)
  have e1 := g (S + 1) (by omega) (by omega)
  have e2 := g (S + 2) (by omega) (by omega)
  have e3 := g (S + 3) (by omega) (by omega)
  refine ⟨h0, by rw [e0]; exact h1, by rw [e0]; exact h2, by rw [e0]; exact h3, by rw [e0]; exact h4, ⟨by rw [e1]; exact h5.1, by rw [e1]; exact h5.2⟩, ⟨by rw [e2]; exact h6.1, by rw [e2]; exact h6.2⟩, ⟨by rw [e3]; exact h7.1, by rw [e3]; exact h7.2⟩, fun p p1 p2 => ?_, fun j j1 j2 => ?_, fun i j j1 j2 j3 => ?_, fun j j1 j2 => ?_, fun i j j1 j2 j3 => ?_, by rw [e0, e0]; exact h13⟩
  · obtain ⟨a1, a2, a3, a4, a5, a6, a7⟩ := h8 p p1 p2
    have f0 := g (S + 4 + 3 * p) (by omega) (by omega)
    have f1 := g (S + 4 + 3 * p + 1) (by omega) (by omega)
    have f2 := g (S + 4 + 3 * p + 2) (by omega) (by omega)
    exact ⟨by rw [e1]; exact a1, by rw [f0]; exact a2, by rw [f0]; exact a3, by rw [f0]; exact a4, ⟨by rw [f1]; exact a5.1, by rw [f1]; exact a5.2⟩, ⟨by rw [f2]; exact a6.1, by rw [f2]; exact a6.2⟩, by rw [f0]; exact a7⟩
  · obtain ⟨a1, a2, a3, a4, a5⟩ := h9 j j1 j2
    have f0 := g (c (S + 2) j) (by omega) (by omega)
    have f1 := g (c (S + 2) j + 1) (by omega) (by omega)
    rw [e2]
    exact ⟨a1, by rw [f0]; exact a2, by rw [f0]; exact a3, ⟨by rw [f1]; exact a4.1, by rw [f1]; exact a4.2⟩, by rw [f0]; exact a5⟩
  · rw [e2, e2]; exact h10 i j j1 j2 j3
  · have := h11 j j1 j2
    rw [e3, g _ (by omega) (by omega)]; exact this
  · rw [e3, e3]; exact h12 i j j1 j2 j3
theorem RuleOK.same {c c' : zC} {Q : Int} (h : RuleOK c Q) (g : ∀ k, c' Q k = c Q k) : RuleOK c' Q := by
  obtain ⟨el, rl, a⟩ := h
  exact ⟨el, rl, by simpa only [g] using a⟩
theorem apAt_same {c c' : zC} {S : Int} (h : LState c S) (g : zsameS c c' S) {r : Nat} (hr : r < 6) : apAt c' S r = apAt c S r := by
  have h11 := (h.2.2.2.2.2.2.2.2.2.2.2.1 (r : Int) (by omega) (by omega)).1
  have e3 := g (S + 3) (by omega) (by omega) r
  funext w
  unfold apAt
  rw [e3, g _ (by omega) (by omega), g _ (by omega) (by omega), g _ (by omega) (by omega), g _ (by omega) (by omega)]
def zrng (l : zBL) : Prop := ∀ q ∈ l, 0 ≤ q.1 ∧ q.1 < 1125899906842624
theorem madd_rng {l : zBL} {w v : Int} (h : zrng l) (hw : 0 ≤ w ∧ w < 1125899906842624) : zrng (madd l w v) := by
  obtain ⟨t, e, -, e3⟩ := madd_pre l w v
  rw [e]
  intro q hq
  rcases List.mem_append.mp hq with h1 | h1
  · exact h q h1
  · rw [e3 q h1]; exact hw
theorem mrow_rng {ap : Nat → Int → Int} {l : zBL} {x v : Int} {n : Nat} (h : zrng l) (ha : ∀ r, r < n → 0 ≤ ap r x ∧ ap r x < 1125899906842624) : zrng (mrow ap l x v n) := by
  induction n with
  | zero => exact h
  | succ n ih => exact madd_rng (ih (fun r hr => ha r (by omega))) (ha n (by omega))
theorem mrow_len_le (ap : Nat → Int → Int) (l : zBL) (x v : Int) {m n : Nat} (h : m ≤ n) : (mrow ap l x v m).length ≤ (mrow ap l x v n).length := by
  induction n with
  | zero => have : m = 0 := by omega
            subst this; exact Nat.le_refl _
  | succ n ih =>
    by_cases e : m = n + 1
    · subst e; exact Nat.le_refl _
    · obtain ⟨t, e1, -⟩ := madd_pre (mrow ap l x v n) (ap n x) v
      show _ ≤ (madd (mrow ap l x v n) (ap n x) v).length
      rw [e1, List.length_append]
      have := ih (by omega)
      omega
theorem mrow_get {ap : Nat → Int → Int} {l : zBL} {x v : Int} {n b : Nat} (h : b < l.length) : (mrow ap l x v n).getD b (0, 0) = l.getD b (0, 0) ∧ b < (mrow ap l x v n).length := by
  obtain ⟨t, e, -⟩ := mrow_pre ap l x v n
  rw [e]
  exact ⟨zgetD_app h, by rw [List.length_append]; omega⟩
section
variable {c : zC} {B S : Int} {rn : Nat}
theorem zs_B_inner (d : Nat) (h : BShape c B) (hS : LState c S) (hd : B + 2 < S ∨ S + 38 ≤ B) (hrn : c S 4 = (rn : Int)) (hru : ∀ r : Nat, r < rn → RuleOK c (c (S + 3) r)) {l0 : zBL} {b : Nat} {x lev : Int} (hb : b < l0.length) (hx : l0.getD b (0, 0) = (x, lev)) (hlev : lev < 2) (hlev0 : 0 ≤ lev) (hxr : 0 ≤ x ∧ x < 1125899906842624) (hcap : (mrow (apAt c S) l0 x (lev + 1) rn).length ≤ 43) :
    ∀ (t j : Nat) (c1 : zC), j + t = rn → BLat c1 B (mrow (apAt c S) l0 x (lev + 1) j) → BFr c c1 B → ∃ c2, BLat c2 B (mrow (apAt c S) l0 x (lev + 1) rn) ∧ BFr c c2 B ∧ ∀ F : Nat, t + 1 ≤ F →
      zex zc_X0_followFrom zk_X0_followFrom (zrun zTab (d + 2)) F 46 [(2, B), (2, S), (3, 0), (3, 0), (0, (b : Int)), (0, (j : Int)), (3, 0)] [] c1 = zex zc_X0_followFrom zk_X0_followFrom (zrun zTab (d + 2)) (F - (t + 1)) 14 [(2, B), (2, S), (3, 0), (3, 0), (0, (b : Int) + 1), (3, 0), (3, 0)] [] c2 := by
  intro t
  have h13 := hS.2.2.2.2.2.2.2.2.2.2.2.2.2
  have hbl : b < 43 := by have := mrow_len_le (apAt c S) l0 x (lev + 1) (Nat.zero_le rn); have : (mrow (apAt c S) l0 x (lev + 1) 0).length = l0.length := rfl; omega
  induction t with
  | zero =>
    intro j c1 hj hl hf
    have : j = rn := by omega
    subst this
    refine ⟨c1, hl, hf, fun F hF => ?_⟩
    obtain ⟨F, rfl⟩ : ∃ G, F = G + 1 := ⟨F - 1, by omega⟩
    have hs1 : zsameS c c1 S := fun b b1 b2 k => hf.1 b (by omega) k
    have hS1 := hS.same hs1
    obtain ⟨q1, q2, q3, ⟨q4, q5⟩, ⟨q6, q7⟩⟩ := h.fr hf
    obtain ⟨g1, g2⟩ := mrow_get (ap := apAt c S) (x := x) (v := lev + 1) (n := j) hb
    have l2 := (hl.2 b g2).2
    rw [g1, hx] at l2
    have l2 : c1 (B + 2) (b : Int) = lev := l2
    rw [ze_X0_followFrom_46, if_pos q1, q3, if_pos ⟨q6, by omega, by omega⟩, l2, if_pos hlev, if_pos hS1.2.1, hs1 S (by omega) (by omega), if_neg (by omega), zw_id' (by omega) (by omega)]
    rfl
  | succ t ih =>
    intro j c1 hj hl hf
    have hs1 : zsameS c c1 S := fun b b1 b2 k => hf.1 b (by omega) k
    have hS1 := hS.same hs1
    obtain ⟨q1, q2, q3, ⟨q4, q5⟩, ⟨q6, q7⟩⟩ := h.fr hf
    obtain ⟨g1, g2⟩ := mrow_get (ap := apAt c S) (x := x) (v := lev + 1) (n := j) hb
    have l2 := (hl.2 b g2).2
    have l3 := (hl.2 b g2).1
    rw [g1, hx] at l2 l3
    have l2 : c1 (B + 2) (b : Int) = lev := l2
    have l3 : c1 (B + 1) (b : Int) = x := l3
    have hS0 := hS.1
    have e3 := hs1 (S + 3) (by omega) (by omega) (j : Int)
    have hq := hS.2.2.2.2.2.2.2.2.2.2.2.1 (j : Int) (by omega) (by omega)
    have hq1 := hq.1
    have hro : RuleOK c1 (c1 (S + 3) j) := by rw [e3]; exact (hru j (by omega)).same (fun k => hs1 _ (by omega) (by omega) k)
    have hrk : c1 (c1 (S + 3) j) (-1) = 7 := by rw [e3, hs1 _ (by omega) (by omega)]; exact hq.2
    obtain ⟨ea, ea1, ea2⟩ := zs_applyAt (d + 1) c1 hrk hro hxr.1 hxr.2
    rw [apAt_same hS hs1 (by omega)] at ea ea1 ea2
    have hra := zs_T_ruleAt (d + 1) (j := (j : Int)) c1 hS1
    rw [if_pos ⟨by omega, by rw [hs1 S (by omega) (by omega)]; omega⟩] at hra
    have hcap2 : (madd (mrow (apAt c S) l0 x (lev + 1) j) (apAt c S j x) (lev + 1)).length ≤ 43 := Nat.le_trans (mrow_len_le (apAt c S) l0 x (lev + 1) (show j + 1 ≤ rn by omega)) hcap
    obtain ⟨c2, ad, al, af⟩ := zs_B_add d (w := apAt c S j x) (v := lev + 1) c1 (h.fr hf) hl hcap2
    obtain ⟨c3, r1, r2, r3⟩ := ih (j + 1) c2 (by omega) al (hf.tr af)
    refine ⟨c3, r1, r2, fun F hF => ?_⟩
    obtain ⟨F, rfl⟩ : ∃ G, F = G + 1 := ⟨F - 1, by omega⟩
    have r4 := r3 F (by omega)
    rw [show F + 1 - (t + 1 + 1) = F - (t + 1) by omega, ← r4]
    rw [ze_X0_followFrom_46, if_pos q1, q3, if_pos ⟨q6, by omega, by omega⟩, l2, if_pos hlev, if_pos hS1.2.1, hs1 S (by omega) (by omega) 4, if_pos (show (j : Int) < c S 4 by omega), if_pos hS1.2.1, hra, zbnd_some, if_neg (by omega), if_pos q1, q2, if_pos ⟨q4, by omega, by omega⟩, l3, if_pos hrk, ea, zbnd_some, if_pos q1, q3, if_pos ⟨q6, by omega, by omega⟩, if_pos q1, l2, zadd_id (by omega) (by omega), ad, zbnd_some, zw_id' (by omega) (by omega)]
    rfl
theorem mcl_len_ge (ap : Nat → Int → Int) (rn : Nat) : ∀ (f b : Nat) (l : zBL), l.length ≤ (mcl ap rn f b l).length := by
  intro f
  induction f with
  | zero => intro b l; exact Nat.le_refl _
  | succ f ih =>
    intro b l
    show _ ≤ (if b < l.length then mcl ap rn f (b + 1) (if (l.getD b (0, 0)).2 < 2 then mrow ap l (l.getD b (0, 0)).1 ((l.getD b (0, 0)).2 + 1) rn else l) else l).length
    split
    · refine Nat.le_trans ?_ (ih _ _)
      split
      · exact mrow_len_le ap l _ _ (Nat.zero_le rn)
      · exact Nat.le_refl _
    · exact Nat.le_refl _
theorem zs_B_outer (d : Nat) (h : BShape c B) (hS : LState c S) (hd : B + 2 < S ∨ S + 38 ≤ B) (hrn : c S 4 = (rn : Int)) (hru : ∀ r : Nat, r < rn → RuleOK c (c (S + 3) r)) :
    ∀ (f b : Nat) (l : zBL) (c1 : zC), b + f = 44 → l.length ≤ 43 → zrng l → (∀ q ∈ l, 0 ≤ q.2) → (mcl (apAt c S) rn f b l).length ≤ 43 → BLat c1 B l → BFr c c1 B → ∃ c2, BLat c2 B (mcl (apAt c S) rn f b l) ∧ BFr c c2 B ∧ ∀ F : Nat, f * 10 + 1 ≤ F →
      zex zc_X0_followFrom zk_X0_followFrom (zrun zTab (d + 2)) F 14 [(2, B), (2, S), (3, 0), (3, 0), (0, (b : Int)), (3, 0), (3, 0)] [] c1 = some (0, c2) := by
  intro f
  have h13 := hS.2.2.2.2.2.2.2.2.2.2.2.2.2
  induction f with
  | zero =>
    intro b l c1 hb hl43 hlr hl0 hcap hl hf
    refine ⟨c1, hl, hf, fun F hF => ?_⟩
    obtain ⟨F, rfl⟩ : ∃ G, F = G + 1 := ⟨F - 1, by omega⟩
    obtain ⟨q1, -⟩ := h.fr hf
    have hl1 := hl.1
    rw [ze_X0_followFrom_14, if_pos q1, if_neg (by omega)]
  | succ f ih =>
    intro b l c1 hb hl43 hlr hl0 hcap hl hf
    obtain ⟨q1, q2, q3, ⟨q4, q5⟩, ⟨q6, q7⟩⟩ := h.fr hf
    have hl1 := hl.1
    have hcap : (if b < l.length then mcl (apAt c S) rn f (b + 1) (if (l.getD b (0, 0)).2 < 2 then mrow (apAt c S) l (l.getD b (0, 0)).1 ((l.getD b (0, 0)).2 + 1) rn else l) else l).length ≤ 43 := hcap
    show ∃ c2, BLat c2 B (if b < l.length then mcl (apAt c S) rn f (b + 1) (if (l.getD b (0, 0)).2 < 2 then mrow (apAt c S) l (l.getD b (0, 0)).1 ((l.getD b (0, 0)).2 + 1) rn else l) else l) ∧ _
    by_cases e : b < l.length
    · rw [if_pos e] at hcap ⊢
      have hmem : l.getD b (0, 0) ∈ l := by
        rw [List.getD_eq_getElem?_getD, List.getElem?_eq_getElem e]
        exact List.getElem_mem e
      have hxr := hlr _ hmem
      have hlev0 := hl0 _ hmem
      have l2 := (hl.2 b e).2
      have hgen : ∃ q, l.getD b (0, 0) = q := ⟨_, rfl⟩
      obtain ⟨⟨x, lev⟩, hx⟩ := hgen
      rw [hx] at hcap hxr hlev0 l2
      rw [hx]
      dsimp only at hcap hxr hlev0 l2 ⊢
      by_cases hlev : lev < 2
      · rw [if_pos hlev] at hcap ⊢
        have hc2 := Nat.le_trans (mcl_len_ge (apAt c S) rn f (b + 1) (mrow (apAt c S) l x (lev + 1) rn)) hcap
        obtain ⟨c2, i1, i2, i3⟩ := zs_B_inner d h hS hd hrn hru e hx hlev hlev0 hxr hc2 rn 0 c1 (by omega) hl hf
        have hrng : ∀ r, r < rn → 0 ≤ apAt c S r x ∧ apAt c S r x < 1125899906842624 := fun r hr => by
          have hq := hS.2.2.2.2.2.2.2.2.2.2.2.1 (r : Int) (by omega) (by omega)
          exact (zs_applyAt 0 c hq.2 (hru r hr) hxr.1 hxr.2).2
        have hlv : ∀ q ∈ mrow (apAt c S) l x (lev + 1) rn, 0 ≤ q.2 := fun q hq => by
          obtain ⟨t, e1, -, e3⟩ := mrow_pre (apAt c S) l x (lev + 1) rn
          rw [e1] at hq
          rcases List.mem_append.mp hq with h1 | h1
          · exact hl0 q h1
          · rw [e3 q h1]; omega
        obtain ⟨c3, r1, r2, r3⟩ := ih (b + 1) _ c2 (by omega) hc2 (mrow_rng hlr hrng) hlv hcap i1 i2
        refine ⟨c3, r1, r2, fun F hF => ?_⟩
        obtain ⟨F, rfl⟩ : ∃ G, F = G + 1 := ⟨F - 1, by omega⟩
        rw [ze_X0_followFrom_14, if_pos q1, if_pos (by omega), if_pos q1, q2, if_pos q4, q5, if_pos (by omega), if_pos q1, q3, if_pos q6, q7, if_pos (by omega)]
        exact (i3 F (by omega)).trans (r3 _ (by omega))
      · rw [if_neg hlev] at hcap ⊢
        obtain ⟨c3, r1, r2, r3⟩ := ih (b + 1) l c1 (by omega) hl43 hlr hl0 hcap hl hf
        refine ⟨c3, r1, r2, fun F hF => ?_⟩
        obtain ⟨F, rfl⟩ : ∃ G, F = G + 2 := ⟨F - 2, by omega⟩
        rw [ze_X0_followFrom_14, if_pos q1, if_pos (by omega), if_pos q1, q2, if_pos q4, q5, if_pos (by omega), if_pos q1, q3, if_pos q6, q7, if_pos (by omega)]
        rw [ze_X0_followFrom_46, if_pos q1, q3, if_pos ⟨q6, by omega, by omega⟩, l2, if_neg hlev, zw_id' (by omega) (by omega)]
        exact r3 _ (by omega)
    · rw [if_neg e]
      refine ⟨c1, hl, hf, fun F hF => ?_⟩
      obtain ⟨F, rfl⟩ : ∃ G, F = G + 1 := ⟨F - 1, by omega⟩
      rw [ze_X0_followFrom_14, if_pos q1, if_neg (by omega)]
theorem zs_B_followFrom (d : Nat) (h : BShape c B) (hS : LState c S) (hd : B + 2 < S ∨ S + 38 ≤ B) (hrn : c S 4 = (rn : Int)) (hru : ∀ r : Nat, r < rn → RuleOK c (c (S + 3) r)) {w : Int} (hw : 0 < w) (hw2 : w < 1125899906842624) : ∃ c', zrun zTab (d + 3) 4 [B, S, w] c = some (0, c') ∧ BLat c' B (mbas (apAt c S) rn w) ∧ BFr c c' B := by
  have h13 := hS.2.2.2.2.2.2.2.2.2.2.2.2.2
  have hB0 : BLat (zup c B 2 0) B [] := ⟨zup_eq ⟨rfl, rfl⟩, fun b hb => absurd hb (Nat.not_lt_zero b)⟩
  have hF0 : BFr c (zup c B 2 0) B := ⟨fun b hb k => zup_ne (by omega), fun b k hk => zup_ne (by omega), zup_ne (by omega), zup_ne (by omega)⟩
  have em : madd [] w 0 = [(w, 0)] := by unfold madd; rw [if_neg (by omega), if_neg (by simp [mhas])]; rfl
  obtain ⟨c1, a1, a2, a3⟩ := zs_B_add d (w := w) (v := 0) _ (h.fr hF0) hB0 (by rw [em]; simp)
  rw [em] at a2
  have hcl := mcl_bas (apAt c S) (rn := rn) (w := w) (by omega) (by omega)
  have hlen := mbas_len (apAt c S) (rn := rn) w (by omega)
  obtain ⟨c2, b1, b2, b3⟩ := zs_B_outer d h hS hd hrn hru 44 0 [(w, 0)] c1 rfl (by simp) (fun q hq => by rw [List.mem_singleton.mp hq]; exact ⟨by show 0 ≤ w; omega, hw2⟩) (fun q hq => by rw [List.mem_singleton.mp hq]; exact Int.le_refl 0) (by rw [hcl]; exact hlen) a2 (hF0.tr a3)
  rw [hcl] at b1
  refine ⟨c2, ?_, b1, b2⟩
  obtain ⟨q1, -⟩ := h
  rw [ze_X0_followFrom, if_pos q1, if_pos (by rw [zup_ne (by omega)]; exact q1), a1, zbnd_some]
  exact b3 19999 (by omega)
end
