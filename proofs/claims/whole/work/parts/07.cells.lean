/-! The rows of the instructions that read, write or make cells. -/
def zCI (ci : Nat) (C : String) (T : u_T) (N : Nat) (ty : Nat → FieldType) : Prop :=
  vwCl[ci]? = some (C, T, N) ∧ ci < 12 ∧ (∀ w ∈ u_ws C T N, w ∈ zWS) ∧ (∀ k, k < N → parseFieldDescriptor (T k).2.2.1 = some (ty k)) ∧ (∀ a, a < N → ∀ b, b < N → a ≠ b → (T a).2.1 ≠ (T b).2.1) ∧ (zFT ci).length = N ∧ (∀ k, k < N → (zFT ci)[k]? = some (ztg (ty k)))
theorem zref {b b0 : Nat} {x : Int} (h : x ≠ 0) : zV b b0 (2, x) = .ref (zro b b0 x) := by
  show va_rf (zrf b b0 x) = _
  unfold zrf; rw [if_neg h]; rfl
theorem zfit {b b0 : Nat} {ty : FieldType} {x : Int} (h : ty = .int ∨ ty = .long ∨ (∃ n, ty = .object n) ∨ ∃ t, ty = .array t) : narrow ty (zV b b0 (ztg ty, x)) = zV b b0 (ztg ty, x) ∧ fits ty (zV b b0 (ztg ty, x)) = true := by
  rcases h with rfl | rfl | ⟨n, rfl⟩ | ⟨t, rfl⟩
  · exact ⟨rfl, rfl⟩
  · exact ⟨rfl, rfl⟩
  · by_cases e : x = 0
    · subst e; exact ⟨rfl, rfl⟩
    · show narrow _ (zV b b0 (2, x)) = zV b b0 (2, x) ∧ fits _ (zV b b0 (2, x)) = true
      rw [zref e]; exact ⟨rfl, rfl⟩
  · by_cases e : x = 0
    · subst e; exact ⟨rfl, rfl⟩
    · show narrow _ (zV b b0 (2, x)) = zV b b0 (2, x) ∧ fits _ (zV b b0 (2, x)) = true
      rw [zref e]; exact ⟨rfl, rfl⟩
theorem zfitZ {x : Int} (h : x = 0 ∨ x = 1) : narrow .boolean (.int (Int32.ofInt x)) = .int (Int32.ofInt x) ∧ fits .boolean (.int (Int32.ofInt x)) = true := by
  rcases h with rfl | rfl
  · exact ⟨rfl, rfl⟩
  · exact ⟨rfl, rfl⟩
theorem zCI_he {ci : Nat} {C : String} {T : u_T} {N : Nat} {ty : Nat → FieldType} {b b0 : Nat} {cy : Nat → ClassId} {c : zC} {x : Int} (hC : zCI ci C T N ty) (h1 : 2 ≤ x) (h2 : x < c 0 0) (hk : c x (-1) = (ci : Int) + 1) : (zws b b0 cy c)[(x - 2).toNat]? = some (zro b b0 x, .inr (ci, zfl (zV b b0) (fun k => c x (k : Int)) 0 (zFT ci))) := by
  rw [zws_get h1 h2, zce_o hk hC.2.1]
theorem zCI_kd {ci : Nat} {C : String} {T : u_T} {N : Nat} {ty : Nat → FieldType} (hC : zCI ci C T N ty) {k : Int} (hk : k = (ci : Int) + 1) : zkd k := by
  have := hC.2.1
  exact Or.inl (by omega)
/-- a put's new picture -/
theorem zput_ws {ci : Nat} {C : String} {T : u_T} {N : Nat} {ty : Nat → FieldType} {b b0 : Nat} {cy : Nat → ClassId} {c : zC} {x y : Int} {f : Nat} (hC : zCI ci C T N ty) (h1 : 2 ≤ x) (hk : c x (-1) = (ci : Int) + 1) (hf : f < N) :
    (zws b b0 cy c).set (x - 2).toNat (zro b b0 x, .inr (ci, (zfl (zV b b0) (fun k => c x (k : Int)) 0 (zFT ci)).set f (zV b b0 (ztg (ty f), y)))) = zws b b0 cy (zup c x f y) := by
  refine zws_set h1 (zup_o (Or.inl (by omega))) (fun a h2 h3 => funext fun j => zup_o (Or.inl h3)) ?_
  rw [zce_o (n := ci) (by rw [zup_o (Or.inr (by omega))]; exact hk) hC.2.1]
  congr 2
  refine zfl_set (fun j hj => zup_o (Or.inr (by omega))) (fun t ht => ?_)
  have e := hC.2.2.2.2.2.2 f hf
  rw [e] at ht
  cases ht
  show zV b b0 (_, zup c x f y x f) = _
  rw [zup_s]
theorem zput_sl {ci : Nat} {C : String} {T : u_T} {N : Nat} {ty : Nat → FieldType} {x : Int} {f : Nat} {k : Int} (hC : zCI ci C T N ty) (hk : k = (ci : Int) + 1) (hf : f < N) (ho : zokv (ztg (ty f), x)) : zsl k f x := by
  intro _
  have h12 := hC.2.1
  refine ⟨fun h => by omega, fun h => by omega, fun _ _ => ?_⟩
  rw [show (k - 1).toNat = ci by omega, Int.toNat_natCast, hC.2.2.2.2.2.2 f hf]
  exact ⟨fun h => ho.1 (Option.some.inj h), fun h => ho.2 (Option.some.inj h)⟩
section
variable {tab : Nat → zT} {own : String} {cc : ByteArray} {nL : Nat} {rt : Option FieldType} {nm : String} {pc : Nat}
theorem zs_get {ci f index : Nat} {C : String} {T : u_T} {N : Nat} {ty : Nat → FieldType} {kd fi : Int} {t : Nat} (hC : zCI ci C T N ty) (hd : decode cc pc = .ok (.getfield index, 3)) (hf : f < N) (hkd : kd = (ci : Int) + 1) (hfi : fi = (f : Int)) (ht : t = ztg (ty f)) (hw : Cond.fieldLink own index (T f).1 (T f).2.1 (T f).2.2.1 ∈ zWS) : zSound tab own cc nL rt nm pc (zi_get kd fi t (pc + 3)) := by
  intro D cy b b0 L xs l call p e R s m args below meth cd Q n0 s0 dl v c' hCall hbb ls st c k h hk w1 w2 w3 w4
  cases st with
  | nil => cases h
  | cons x st =>
  obtain ⟨e1, h⟩ := zc_of h
  obtain ⟨tx, x⟩ := x
  have e1 : tx = 2 := e1
  subst e1
  obtain ⟨e2, h⟩ := zi_of h
  have e2 : c x (-1) = kd := e2
  subst hfi ht
  have hk0 : c x (-1) = (ci : Int) + 1 := e2.trans hkd
  obtain ⟨b1, b2⟩ := zwf_a w1 (zCI_kd hC hk0)
  have ok : zokv (ztg (ty f), c x (f : Int)) := by
    have q := (w1.2.2.2.2.2.2.2.1 x (f : Int) b1 (Int.natCast_nonneg f)).2.2
    have h12 := hC.2.1
    have q := q (by omega) (by omega)
    rw [show (c x (-1) - 1).toNat = ci by omega, Int.toNat_natCast, hC.2.2.2.2.2.2 f hf] at q
    exact ⟨fun h => q.1 (by rw [show ztg (ty f) = 0 from h]), fun h => q.2 (by rw [show ztg (ty f) = 1 from h])⟩
  have g := hk _ _ _ _ h w1 w2 (zokl_c ok (zokl_t w3)) w4
  refine ⟨g.1, fun hF hR a1 a2 H locs lsR hP hS hL => ?_⟩
  have hF9 := hF
  obtain ⟨hx, hb, hml, hown, hts, hKn, hX, hbb2, hsz, hn0, hs0, hfr, hlo, hrc, hrs, hnm⟩ := hF9
  rw [List.map_cons, zref (by omega)]
  refine va_get (v := zV b b0 (ztg (ty f), c x (f : Int))) hx hb hts hC.2.2.1 hown hKn.1 hP (x - 2).toNat (zCI_he hC b1 b2 hk0) hC.1 f hf (hts _ hw) (fun _ h => h) ?_ hd (g.2 hF hR a1 a2 H locs lsR hP hS hL)
  rw [zfl_get, hC.2.2.2.2.2.2 f hf]
  simp
theorem zs_put {ci f index : Nat} {C : String} {T : u_T} {N : Nat} {ty : Nat → FieldType} {kd fi : Int} {t : Nat} (hC : zCI ci C T N ty) (hd : decode cc pc = .ok (.putfield index, 3)) (hf : f < N) (hkd : kd = (ci : Int) + 1) (hfi : fi = (f : Int)) (ht : t = ztg (ty f)) (hty : ty f = .int ∨ ty f = .long ∨ (∃ n, ty f = .object n) ∨ ∃ t, ty f = .array t) (hw : Cond.fieldLink own index (T f).1 (T f).2.1 (T f).2.2.1 ∈ zWS)
    (hfin : (T f).2.2.2 = false ∨ ((T f).2.2.2 = true ∧ nm = "<init>" ∧ (T f).1 = own)) : zSound tab own cc nL rt nm pc (zi_put kd fi t (pc + 3)) := by
  intro D cy b b0 L xs l call p e R s m args below meth cd Q n0 s0 dl v c' hCall hbb ls st c k h hk w1 w2 w3 w4
  subst hfi ht
  cases st with
  | nil => cases h
  | cons y st =>
  cases st with
  | nil => cases h
  | cons x st =>
  obtain ⟨e1, h⟩ := zc_of h
  obtain ⟨ty1, y⟩ := y
  have e1 : ty1 = ztg (ty f) := e1
  subst e1
  obtain ⟨e1, h⟩ := zc_of h
  obtain ⟨tx, x⟩ := x
  have e1 : tx = 2 := e1
  subst e1
  obtain ⟨e2, h⟩ := zi_of h
  have e2 : c x (-1) = kd := e2
  have hk0 : c x (-1) = (ci : Int) + 1 := e2.trans hkd
  obtain ⟨b1, b2⟩ := zwf_a w1 (zCI_kd hC hk0)
  have c00 : zup c x f y 0 0 = c 0 0 := zup_o (Or.inl (by omega))
  have c01 : zup c x f y 0 1 = c 0 1 := zup_o (Or.inl (by omega))
  have g := hk _ _ _ _ h (zwf_up w1 (zCI_kd hC hk0) (Int.natCast_nonneg f) (zput_sl hC hk0 hf (zokl_h w3))) w2 (zokl_t (zokl_t w3)) w4
  rw [show zup c (2, x).2 f (ztg (ty f), y).2 = zup c x f y from rfl, c00, c01] at g
  refine ⟨g.1, fun hF hR a1 a2 H locs lsR hP hS hL => ?_⟩
  have hF9 := hF
  obtain ⟨hx, hb, hml, hown, hts, hKn, hX, hbb2, hsz, hn0, hs0, hfr, hlo, hrc, hrs, hnm⟩ := hF9
  rw [List.map_cons, List.map_cons, zref (by omega)]
  obtain ⟨f1, f2⟩ := zfit (b := b) (b0 := b0) (x := y) hty
  have hlen : f < (zfl (zV b b0) (fun k => c x (k : Int)) 0 (zFT ci)).length := by rw [zfl_len, hC.2.2.2.2.2.1]; exact hf
  rcases hfin with hfin | ⟨hfin, hi1, hi2⟩
  · refine va_put (ty := ty f) (v := zV b b0 (ztg (ty f), y)) hx hb hts hC.2.2.1 ty hC.2.2.2.1 hC.2.2.2.2.1 hown hKn.1 hP zws_D hS (x - 2).toNat (zCI_he hC b1 b2 hk0) hC.1 f hf (hts _ hw) (fun _ h => h) hfin (hC.2.2.2.1 f hf) f1 f2 hlen hd (fun H1 locs1 hP1 hD1 hS1 => ?_)
    rw [zput_ws hC b1 hk0 hf] at hP1
    exact g.2 hF hR a1 a2 H1 locs1 lsR hP1 hS1 hL
  · refine va_putF (ty := ty f) (v := zV b b0 (ztg (ty f), y)) hx hb hts hC.2.2.1 ty hC.2.2.2.1 hC.2.2.2.2.1 hown hKn.1 hP zws_D hS (x - 2).toNat (zCI_he hC b1 b2 hk0) hC.1 f hf (hts _ hw) (fun _ h => h) hfin (hnm.trans hi1) hi2 (hC.2.2.2.1 f hf) f1 f2 hlen hd (fun H1 locs1 hP1 hD1 hS1 => ?_)
    rw [zput_ws hC b1 hk0 hf] at hP1
    exact g.2 hF hR a1 a2 H1 locs1 lsR hP1 hS1 hL
theorem zs_putZ {ci f index : Nat} {C : String} {T : u_T} {N : Nat} {ty : Nat → FieldType} {kd fi : Int} (hC : zCI ci C T N ty) (hd : decode cc pc = .ok (.putfield index, 3)) (hf : f < N) (hkd : kd = (ci : Int) + 1) (hfi : fi = (f : Int)) (hty : ty f = .boolean) (hw : Cond.fieldLink own index (T f).1 (T f).2.1 (T f).2.2.1 ∈ zWS)
    (hfin : (T f).2.2.2 = false) : zSound tab own cc nL rt nm pc (zi_putZ kd fi (pc + 3)) := by
  intro D cy b b0 L xs l call p e R s m args below meth cd Q n0 s0 dl v c' hCall hbb ls st c k h hk w1 w2 w3 w4
  subst hfi
  cases st with
  | nil => cases h
  | cons y st =>
  cases st with
  | nil => cases h
  | cons x st =>
  obtain ⟨e1, h⟩ := zc_of h
  obtain ⟨ty1, y⟩ := y
  have e1 : ty1 = 0 := e1
  subst e1
  obtain ⟨e1, h⟩ := zc_of h
  obtain ⟨tx, x⟩ := x
  have e1 : tx = 2 := e1
  subst e1
  obtain ⟨e2, h⟩ := zi_of h
  have e2 : c x (-1) = kd := e2
  obtain ⟨e3, h⟩ := zi_of h
  have e3 : y = 0 ∨ y = 1 := e3
  have hk0 : c x (-1) = (ci : Int) + 1 := e2.trans hkd
  obtain ⟨b1, b2⟩ := zwf_a w1 (zCI_kd hC hk0)
  have c00 : zup c x f y 0 0 = c 0 0 := zup_o (Or.inl (by omega))
  have c01 : zup c x f y 0 1 = c 0 1 := zup_o (Or.inl (by omega))
  have ez : ztg (ty f) = 0 := by rw [hty]; rfl
  have g := hk _ _ _ _ h (zwf_up w1 (zCI_kd hC hk0) (Int.natCast_nonneg f) (zput_sl hC hk0 hf (by rw [ez]; exact zokl_h w3))) w2 (zokl_t (zokl_t w3)) w4
  rw [show zup c (2, x).2 f ((0 : Nat), y).2 = zup c x f y from rfl, c00, c01] at g
  refine ⟨g.1, fun hF hR a1 a2 H locs lsR hP hS hL => ?_⟩
  have hF9 := hF
  obtain ⟨hx, hb, hml, hown, hts, hKn, hX, hbb2, hsz, hn0, hs0, hfr, hlo, hrc, hrs, hnm⟩ := hF9
  rw [List.map_cons, List.map_cons, zref (by omega)]
  obtain ⟨f1, f2⟩ := zfitZ e3
  have hlen : f < (zfl (zV b b0) (fun k => c x (k : Int)) 0 (zFT ci)).length := by rw [zfl_len, hC.2.2.2.2.2.1]; exact hf
  refine va_put (ty := .boolean) (v := zV b b0 (0, y)) hx hb hts hC.2.2.1 ty hC.2.2.2.1 hC.2.2.2.2.1 hown hKn.1 hP zws_D hS (x - 2).toNat (zCI_he hC b1 b2 hk0) hC.1 f hf (hts _ hw) (fun _ h => h) hfin (by rw [hC.2.2.2.1 f hf, hty]) f1 f2 hlen hd (fun H1 locs1 hP1 hD1 hS1 => ?_)
  rw [show zV b b0 (0, y) = zV b b0 (ztg (ty f), y) by rw [ez], zput_ws hC b1 hk0 hf] at hP1
  exact g.2 hF hR a1 a2 H1 locs1 lsR hP1 hS1 hL
-- arrays
theorem zTY_at {cy : Nat → ClassId} {t0 k : Nat} {ty : FieldType} (h : zTY[t0]? = some (k, ty)) : (zTY.map fun q => (cy q.1, q.2))[t0]? = some (cy k, ty) := by
  rw [List.getElem?_map, h]; rfl
theorem zidx {y n : Int} (hy : zin32 y) (h0 : 0 ≤ y) (h1 : y < n) : vp_in (Int32.ofInt y) n.toNat ∧ (Int32.ofInt y).toNatClampNeg = y.toNat ∧ ((y.toNat : Nat) : Int) = y := ⟨z32_vin hy h0 (by omega), z32_clamp hy, by omega⟩
theorem zs_iald (hd : decode cc pc = .ok (.iaload, 1)) : zSound tab own cc nL rt nm pc (zi_ald 100 0 (pc + 1)) := by
  intro D cy b b0 L xs l call p e R s m args below meth cd Q n0 s0 dl v c' hCall hbb ls st c k h hk w1 w2 w3 w4
  cases st with
  | nil => cases h
  | cons y st =>
  cases st with
  | nil => cases h
  | cons x st =>
  obtain ⟨e1, h⟩ := zc_of h
  obtain ⟨ty, y⟩ := y
  have e1 : ty = 0 := e1
  subst e1
  obtain ⟨e1, h⟩ := zc_of h
  obtain ⟨tx, x⟩ := x
  have e1 : tx = 2 := e1
  subst e1
  obtain ⟨e2, h⟩ := zi_of h
  have e2 : c x (-1) = 100 ∧ 0 ≤ y ∧ y < c x (-2) := e2
  obtain ⟨e2, e3, e4⟩ := e2
  have oy : zin32 y := (zokl_h w3).1 rfl
  obtain ⟨b1, b2⟩ := zwf_a w1 (a := x) (Or.inr (Or.inl e2))
  have g := hk _ _ _ _ h w1 w2 (zokl_c (zok0 ((w1.2.2.2.2.2.2.2.1 x y b1 e3).1 (Or.inl e2))) (zokl_t (zokl_t w3))) w4
  refine ⟨g.1, fun hF hR a1 a2 H locs lsR hP hS hL => ?_⟩
  have hF9 := hF
  obtain ⟨hx, hb, hml, hown, hts, hKn, hX, hbb2, hsz, hn0, hs0, hfr, hlo, hrc, hrs, hnm⟩ := hF9
  have g2 := g.2 hF hR a1 a2 H locs lsR hP hS hL
  obtain ⟨i1, i2, i3⟩ := zidx oy e3 e4
  rw [List.map_cons, List.map_cons, zref (by omega)]
  have he := zws_get (b := b) (b0 := b0) (cy := cy) b1 b2
  rw [zce_100 e2] at he
  refine va_iald hx hb hKn.1 hP (x - 2).toNat 0 he (zTY_at rfl) i1 hd ?_
  rw [i2, i3]
  exact g2
theorem zs_ialen (hd : decode cc pc = .ok (.arraylength, 1)) : zSound tab own cc nL rt nm pc (zi_alen 100 (pc + 1)) := by
  intro D cy b b0 L xs l call p e R s m args below meth cd Q n0 s0 dl v c' hCall hbb ls st c k h hk w1 w2 w3 w4
  cases st with
  | nil => cases h
  | cons x st =>
  obtain ⟨e1, h⟩ := zc_of h
  obtain ⟨tx, x⟩ := x
  have e1 : tx = 2 := e1
  subst e1
  obtain ⟨e2, h⟩ := zi_of h
  have e2 : c x (-1) = 100 := e2
  obtain ⟨b1, b2⟩ := zwf_a w1 (a := x) (Or.inr (Or.inl e2))
  obtain ⟨l1, l2⟩ := w1.2.2.2.2.2.2.1 x b1
  have g := hk _ _ _ _ h w1 w2 (zokl_c (zok0 (show zin32 (c x (-2)) from ⟨by omega, by omega⟩)) (zokl_t w3)) w4
  refine ⟨g.1, fun hF hR a1 a2 H locs lsR hP hS hL => ?_⟩
  have hF9 := hF
  obtain ⟨hx, hb, hml, hown, hts, hKn, hX, hbb2, hsz, hn0, hs0, hfr, hlo, hrc, hrs, hnm⟩ := hF9
  have g2 := g.2 hF hR a1 a2 H locs lsR hP hS hL
  rw [List.map_cons, zref (by omega)]
  have he := zws_get (b := b) (b0 := b0) (cy := cy) b1 b2
  rw [zce_100 e2] at he
  refine va_alen hx hb hKn.1 hP (x - 2).toNat 0 he (zTY_at rfl) (v := Int32.ofInt (c x (-2))) ?_ hd g2
  show Int32.ofNat (c x (-2)).toNat = _
  rw [← Int32.ofInt_eq_ofNat, show (((c x (-2)).toNat : Nat) : Int) = c x (-2) by omega]
theorem zs_lald (hd : decode cc pc = .ok (.laload, 1)) : zSound tab own cc nL rt nm pc (zi_ald 101 1 (pc + 1)) := by
  intro D cy b b0 L xs l call p e R s m args below meth cd Q n0 s0 dl v c' hCall hbb ls st c k h hk w1 w2 w3 w4
  cases st with
  | nil => cases h
  | cons y st =>
  cases st with
  | nil => cases h
  | cons x st =>
  obtain ⟨e1, h⟩ := zc_of h
  obtain ⟨ty, y⟩ := y
  have e1 : ty = 0 := e1
  subst e1
  obtain ⟨e1, h⟩ := zc_of h
  obtain ⟨tx, x⟩ := x
  have e1 : tx = 2 := e1
  subst e1
  obtain ⟨e2, h⟩ := zi_of h
  have e2 : c x (-1) = 101 ∧ 0 ≤ y ∧ y < c x (-2) := e2
  obtain ⟨e2, e3, e4⟩ := e2
  have oy : zin32 y := (zokl_h w3).1 rfl
  obtain ⟨b1, b2⟩ := zwf_a w1 (a := x) (Or.inr (Or.inr (Or.inl e2)))
  have g := hk _ _ _ _ h w1 w2 (zokl_c (zok1 ((w1.2.2.2.2.2.2.2.1 x y b1 e3).2.1 e2)) (zokl_t (zokl_t w3))) w4
  refine ⟨g.1, fun hF hR a1 a2 H locs lsR hP hS hL => ?_⟩
  have hF9 := hF
  obtain ⟨hx, hb, hml, hown, hts, hKn, hX, hbb2, hsz, hn0, hs0, hfr, hlo, hrc, hrs, hnm⟩ := hF9
  have g2 := g.2 hF hR a1 a2 H locs lsR hP hS hL
  obtain ⟨i1, i2, i3⟩ := zidx oy e3 e4
  rw [List.map_cons, List.map_cons, zref (by omega)]
  have he := zws_get (b := b) (b0 := b0) (cy := cy) b1 b2
  rw [zce_101 e2] at he
  refine va_lald hx hb hKn.1 hP (x - 2).toNat 1 he (zTY_at rfl) i1 hd ?_
  rw [i2, i3]
  exact g2
theorem zs_lalen (hd : decode cc pc = .ok (.arraylength, 1)) : zSound tab own cc nL rt nm pc (zi_alen 101 (pc + 1)) := by
  intro D cy b b0 L xs l call p e R s m args below meth cd Q n0 s0 dl v c' hCall hbb ls st c k h hk w1 w2 w3 w4
  cases st with
  | nil => cases h
  | cons x st =>
  obtain ⟨e1, h⟩ := zc_of h
  obtain ⟨tx, x⟩ := x
  have e1 : tx = 2 := e1
  subst e1
  obtain ⟨e2, h⟩ := zi_of h
  have e2 : c x (-1) = 101 := e2
  obtain ⟨b1, b2⟩ := zwf_a w1 (a := x) (Or.inr (Or.inr (Or.inl e2)))
  obtain ⟨l1, l2⟩ := w1.2.2.2.2.2.2.1 x b1
  have g := hk _ _ _ _ h w1 w2 (zokl_c (zok0 (show zin32 (c x (-2)) from ⟨by omega, by omega⟩)) (zokl_t w3)) w4
  refine ⟨g.1, fun hF hR a1 a2 H locs lsR hP hS hL => ?_⟩
  have hF9 := hF
  obtain ⟨hx, hb, hml, hown, hts, hKn, hX, hbb2, hsz, hn0, hs0, hfr, hlo, hrc, hrs, hnm⟩ := hF9
  have g2 := g.2 hF hR a1 a2 H locs lsR hP hS hL
  rw [List.map_cons, zref (by omega)]
  have he := zws_get (b := b) (b0 := b0) (cy := cy) b1 b2
  rw [zce_101 e2] at he
  refine va_alen hx hb hKn.1 hP (x - 2).toNat 1 he (zTY_at rfl) (v := Int32.ofInt (c x (-2))) ?_ hd g2
  show Int32.ofNat (c x (-2)).toNat = _
  rw [← Int32.ofInt_eq_ofNat, show (((c x (-2)).toNat : Nat) : Int) = c x (-2) by omega]
theorem zs_zald (hd : decode cc pc = .ok (.baload, 1)) : zSound tab own cc nL rt nm pc (zi_ald 102 0 (pc + 1)) := by
  intro D cy b b0 L xs l call p e R s m args below meth cd Q n0 s0 dl v c' hCall hbb ls st c k h hk w1 w2 w3 w4
  cases st with
  | nil => cases h
  | cons y st =>
  cases st with
  | nil => cases h
  | cons x st =>
  obtain ⟨e1, h⟩ := zc_of h
  obtain ⟨ty, y⟩ := y
  have e1 : ty = 0 := e1
  subst e1
  obtain ⟨e1, h⟩ := zc_of h
  obtain ⟨tx, x⟩ := x
  have e1 : tx = 2 := e1
  subst e1
  obtain ⟨e2, h⟩ := zi_of h
  have e2 : c x (-1) = 102 ∧ 0 ≤ y ∧ y < c x (-2) := e2
  obtain ⟨e2, e3, e4⟩ := e2
  have oy : zin32 y := (zokl_h w3).1 rfl
  obtain ⟨b1, b2⟩ := zwf_a w1 (a := x) (Or.inr (Or.inr (Or.inr (Or.inl e2))))
  have g := hk _ _ _ _ h w1 w2 (zokl_c (zok0 ((w1.2.2.2.2.2.2.2.1 x y b1 e3).1 (Or.inr e2))) (zokl_t (zokl_t w3))) w4
  refine ⟨g.1, fun hF hR a1 a2 H locs lsR hP hS hL => ?_⟩
  have hF9 := hF
  obtain ⟨hx, hb, hml, hown, hts, hKn, hX, hbb2, hsz, hn0, hs0, hfr, hlo, hrc, hrs, hnm⟩ := hF9
  have g2 := g.2 hF hR a1 a2 H locs lsR hP hS hL
  obtain ⟨i1, i2, i3⟩ := zidx oy e3 e4
  rw [List.map_cons, List.map_cons, zref (by omega)]
  have he := zws_get (b := b) (b0 := b0) (cy := cy) b1 b2
  rw [zce_102 e2] at he
  refine va_zald hx hb hKn.1 hP (x - 2).toNat 2 he (zTY_at rfl) i1 hd ?_
  rw [i2, i3]
  exact g2
theorem zs_zalen (hd : decode cc pc = .ok (.arraylength, 1)) : zSound tab own cc nL rt nm pc (zi_alen 102 (pc + 1)) := by
  intro D cy b b0 L xs l call p e R s m args below meth cd Q n0 s0 dl v c' hCall hbb ls st c k h hk w1 w2 w3 w4
  cases st with
  | nil => cases h
  | cons x st =>
  obtain ⟨e1, h⟩ := zc_of h
  obtain ⟨tx, x⟩ := x
  have e1 : tx = 2 := e1
  subst e1
  obtain ⟨e2, h⟩ := zi_of h
  have e2 : c x (-1) = 102 := e2
  obtain ⟨b1, b2⟩ := zwf_a w1 (a := x) (Or.inr (Or.inr (Or.inr (Or.inl e2))))
  obtain ⟨l1, l2⟩ := w1.2.2.2.2.2.2.1 x b1
  have g := hk _ _ _ _ h w1 w2 (zokl_c (zok0 (show zin32 (c x (-2)) from ⟨by omega, by omega⟩)) (zokl_t w3)) w4
  refine ⟨g.1, fun hF hR a1 a2 H locs lsR hP hS hL => ?_⟩
  have hF9 := hF
  obtain ⟨hx, hb, hml, hown, hts, hKn, hX, hbb2, hsz, hn0, hs0, hfr, hlo, hrc, hrs, hnm⟩ := hF9
  have g2 := g.2 hF hR a1 a2 H locs lsR hP hS hL
  rw [List.map_cons, zref (by omega)]
  have he := zws_get (b := b) (b0 := b0) (cy := cy) b1 b2
  rw [zce_102 e2] at he
  refine va_alen hx hb hKn.1 hP (x - 2).toNat 2 he (zTY_at rfl) (v := Int32.ofInt (c x (-2))) ?_ hd g2
  show Int32.ofNat (c x (-2)).toNat = _
  rw [← Int32.ofInt_eq_ofNat, show (((c x (-2)).toNat : Nat) : Int) = c x (-2) by omega]
theorem zs_aald {ci t0 : Nat} {C : String} {kd : Int} (hd : decode cc pc = .ok (.aaload, 1)) (hci : ci < 12) (hkd : kd = 110 + (ci : Int)) (ht : zTY[t0]? = some (3 + ci, .object C)) : zSound tab own cc nL rt nm pc (zi_ald kd 2 (pc + 1)) := by
  intro D cy b b0 L xs l call p e R s m args below meth cd Q n0 s0 dl v c' hCall hbb ls st c k h hk w1 w2 w3 w4
  cases st with
  | nil => cases h
  | cons y st =>
  cases st with
  | nil => cases h
  | cons x st =>
  obtain ⟨e1, h⟩ := zc_of h
  obtain ⟨ty, y⟩ := y
  have e1 : ty = 0 := e1
  subst e1
  obtain ⟨e1, h⟩ := zc_of h
  obtain ⟨tx, x⟩ := x
  have e1 : tx = 2 := e1
  subst e1
  obtain ⟨e2, h⟩ := zi_of h
  have e2 : c x (-1) = kd ∧ 0 ≤ y ∧ y < c x (-2) := e2
  obtain ⟨e2, e3, e4⟩ := e2
  have oy : zin32 y := (zokl_h w3).1 rfl
  obtain ⟨b1, b2⟩ := zwf_a w1 (a := x) (Or.inr (Or.inr (Or.inr (Or.inr (by omega)))))
  have g := hk _ _ _ _ h w1 w2 (zokl_c zok2 (zokl_t (zokl_t w3))) w4
  refine ⟨g.1, fun hF hR a1 a2 H locs lsR hP hS hL => ?_⟩
  have hF9 := hF
  obtain ⟨hx, hb, hml, hown, hts, hKn, hX, hbb2, hsz, hn0, hs0, hfr, hlo, hrc, hrs, hnm⟩ := hF9
  have g2 := g.2 hF hR a1 a2 H locs lsR hP hS hL
  obtain ⟨i1, i2, i3⟩ := zidx oy e3 e4
  rw [List.map_cons, List.map_cons, zref (by omega)]
  have he := zws_get (b := b) (b0 := b0) (cy := cy) b1 b2
  rw [zce_r (n := ci) (e2.trans hkd)] at he
  refine va_aldq hx hb hKn.1 hP (x - 2).toNat t0 he (zTY_at ht) i1 hd ?_
  rw [i2, i3]
  exact g2
theorem zs_aalen {ci t0 : Nat} {C : String} {kd : Int} (hd : decode cc pc = .ok (.arraylength, 1)) (hci : ci < 12) (hkd : kd = 110 + (ci : Int)) (ht : zTY[t0]? = some (3 + ci, .object C)) : zSound tab own cc nL rt nm pc (zi_alen kd (pc + 1)) := by
  intro D cy b b0 L xs l call p e R s m args below meth cd Q n0 s0 dl v c' hCall hbb ls st c k h hk w1 w2 w3 w4
  cases st with
  | nil => cases h
  | cons x st =>
  obtain ⟨e1, h⟩ := zc_of h
  obtain ⟨tx, x⟩ := x
  have e1 : tx = 2 := e1
  subst e1
  obtain ⟨e2, h⟩ := zi_of h
  have e2 : c x (-1) = kd := e2
  obtain ⟨b1, b2⟩ := zwf_a w1 (a := x) (Or.inr (Or.inr (Or.inr (Or.inr (by omega)))))
  obtain ⟨l1, l2⟩ := w1.2.2.2.2.2.2.1 x b1
  have g := hk _ _ _ _ h w1 w2 (zokl_c (zok0 (show zin32 (c x (-2)) from ⟨by omega, by omega⟩)) (zokl_t w3)) w4
  refine ⟨g.1, fun hF hR a1 a2 H locs lsR hP hS hL => ?_⟩
  have hF9 := hF
  obtain ⟨hx, hb, hml, hown, hts, hKn, hX, hbb2, hsz, hn0, hs0, hfr, hlo, hrc, hrs, hnm⟩ := hF9
  have g2 := g.2 hF hR a1 a2 H locs lsR hP hS hL
  rw [List.map_cons, zref (by omega)]
  have he := zws_get (b := b) (b0 := b0) (cy := cy) b1 b2
  rw [zce_r (n := ci) (e2.trans hkd)] at he
  refine va_alen hx hb hKn.1 hP (x - 2).toNat t0 he (zTY_at ht) (v := Int32.ofInt (c x (-2))) ?_ hd g2
  show Int32.ofNat (c x (-2)).toNat = _
  rw [← Int32.ofInt_eq_ofNat, show (((c x (-2)).toNat : Nat) : Int) = c x (-2) by omega]
theorem zs_sald (hd : decode cc pc = .ok (.iaload, 1)) : zSound tab own cc nL rt nm pc (zi_ald 99 0 (pc + 1)) := by
  intro D cy b b0 L xs l call p e R s m args below meth cd Q n0 s0 dl v c' hCall hbb ls st c k h hk w1 w2 w3 w4
  cases st with
  | nil => cases h
  | cons y st =>
  cases st with
  | nil => cases h
  | cons x st =>
  obtain ⟨e1, h⟩ := zc_of h
  obtain ⟨ty, y⟩ := y
  have e1 : ty = 0 := e1
  subst e1
  obtain ⟨e1, h⟩ := zc_of h
  obtain ⟨tx, x⟩ := x
  have e1 : tx = 2 := e1
  subst e1
  obtain ⟨e2, h⟩ := zi_of h
  have e2 : c x (-1) = 99 ∧ 0 ≤ y ∧ y < c x (-2) := e2
  obtain ⟨e2, e3, e4⟩ := e2
  have oy : zin32 y := (zokl_h w3).1 rfl
  have ex : x = 1 := by
    obtain ⟨g1, g2, g3, g4, g5, g6, -⟩ := w1
    by_cases q : c 0 0 ≤ x ∨ x < 0
    · rw [g3 x q] at e2; omega
    · by_cases q0 : x = 0
      · rw [q0] at e2; omega
      · by_cases q1 : x = 1
        · exact q1
        · have := g6 x (by omega) (by omega)
          unfold zkd at this; omega
  subst ex
  have eL := w1.2.2.2.2.2.2.2.2.1
  have ev := w1.2.2.2.2.2.2.2.2.2.2 y.toNat (by omega)
  rw [show ((y.toNat : Nat) : Int) = y by omega] at ev
  have g := hk _ _ _ _ h w1 w2 (zokl_c (zok0 (by show zin32 (c 1 y); rw [ev]; exact z32_in _)) (zokl_t (zokl_t w3))) w4
  refine ⟨g.1, fun hF hR a1 a2 H locs lsR hP hS hL => ?_⟩
  have hF9 := hF
  obtain ⟨hx, hb, hml, hown, hts, hKn, hX, hbb2, hsz, hn0, hs0, hfr, hlo, hrc, hrs, hnm⟩ := hF9
  have g2 := g.2 hF hR a1 a2 H locs lsR hP hS hL
  rw [List.map_cons, List.map_cons, zref (by decide)]
  rw [List.map_cons, show zV b b0 (0, c (2, (1 : Int)).2 (0, y).2) = .int (Int32.ofInt (c 1 y)) from rfl, ev, z32_of] at g2
  refine va_sld hx hb hX (by omega) (by show ¬ b0 ≤ b; omega) hS (i := Int32.ofInt y) (z32_vin oy e3 (by omega)) hd ?_
  rw [z32_clamp oy]
  exact g2
theorem zs_slen (hd : decode cc pc = .ok (.arraylength, 1)) : zSound tab own cc nL rt nm pc (zi_alen 99 (pc + 1)) := by
  intro D cy b b0 L xs l call p e R s m args below meth cd Q n0 s0 dl v c' hCall hbb ls st c k h hk w1 w2 w3 w4
  cases st with
  | nil => cases h
  | cons x st =>
  obtain ⟨e1, h⟩ := zc_of h
  obtain ⟨tx, x⟩ := x
  have e1 : tx = 2 := e1
  subst e1
  obtain ⟨e2, h⟩ := zi_of h
  have e2 : c x (-1) = 99 := e2
  have ex : x = 1 := by
    obtain ⟨g1, g2, g3, g4, g5, g6, -⟩ := w1
    by_cases q : c 0 0 ≤ x ∨ x < 0
    · rw [g3 x q] at e2; omega
    · by_cases q0 : x = 0
      · rw [q0] at e2; omega
      · by_cases q1 : x = 1
        · exact q1
        · have := g6 x (by omega) (by omega)
          unfold zkd at this; omega
  subst ex
  have eL := w1.2.2.2.2.2.2.2.2.1
  have eL2 := w1.2.2.2.2.2.2.2.2.2.1
  have g := hk _ _ _ _ h w1 w2 (zokl_c (zok0 (by show zin32 (c 1 (-2)); rw [eL]; exact ⟨by omega, by omega⟩)) (zokl_t w3)) w4
  refine ⟨g.1, fun hF hR a1 a2 H locs lsR hP hS hL => ?_⟩
  have hF9 := hF
  obtain ⟨hx, hb, hml, hown, hts, hKn, hX, hbb2, hsz, hn0, hs0, hfr, hlo, hrc, hrs, hnm⟩ := hF9
  have g2 := g.2 hF hR a1 a2 H locs lsR hP hS hL
  rw [List.map_cons, zref (by decide)]
  rw [List.map_cons, show zV b b0 (0, c (2, (1 : Int)).2 (-2)) = .int (Int32.ofInt (c 1 (-2))) from rfl, eL, Int32.ofInt_eq_ofNat] at g2
  exact va_slen (b := b) hx hb hX (by omega) (by show ¬ b0 ≤ b; omega) hS hd g2
theorem zs_iast (hd : decode cc pc = .ok (.iastore, 1)) : zSound tab own cc nL rt nm pc (zi_ast 100 0 (pc + 1)) := by
  intro D cy b b0 L xs l call p e R s m args below meth cd Q n0 s0 dl v c' hCall hbb ls st c k h hk w1 w2 w3 w4
  cases st with
  | nil => cases h
  | cons z st =>
  cases st with
  | nil => cases h
  | cons y st =>
  cases st with
  | nil => cases h
  | cons x st =>
  obtain ⟨e1, h⟩ := zc_of h
  obtain ⟨tz, z⟩ := z
  have e1 : tz = 0 := e1
  subst e1
  obtain ⟨e1, h⟩ := zc_of h
  obtain ⟨ty, y⟩ := y
  have e1 : ty = 0 := e1
  subst e1
  obtain ⟨e1, h⟩ := zc_of h
  obtain ⟨tx, x⟩ := x
  have e1 : tx = 2 := e1
  subst e1
  obtain ⟨e2, h⟩ := zi_of h
  have e2 : c x (-1) = 100 ∧ 0 ≤ y ∧ y < c x (-2) := e2
  obtain ⟨e2, e3, e4⟩ := e2
  have oy : zin32 y := (zokl_h (zokl_t w3)).1 rfl
  obtain ⟨b1, b2⟩ := zwf_a w1 (a := x) (Or.inr (Or.inl e2))
  have c00 : zup c x y z 0 0 = c 0 0 := zup_o (Or.inl (by omega))
  have c01 : zup c x y z 0 1 = c 0 1 := zup_o (Or.inl (by omega))
  have g := hk _ _ _ _ h (zwf_up w1 (Or.inr (Or.inl e2)) e3 (fun _ => ⟨fun _ => (zokl_h w3).1 rfl, fun q => by omega, fun q1 q2 => by omega⟩)) w2 (zokl_t (zokl_t (zokl_t w3))) w4
  rw [show zup c ((2 : Nat), x).2 ((0 : Nat), y).2 ((0 : Nat), z).2 = zup c x y z from rfl, c00, c01] at g
  refine ⟨g.1, fun hF hR a1 a2 H locs lsR hP hS hL => ?_⟩
  have hF9 := hF
  obtain ⟨hx, hb, hml, hown, hts, hKn, hX, hbb2, hsz, hn0, hs0, hfr, hlo, hrc, hrs, hnm⟩ := hF9
  obtain ⟨i1, i2, i3⟩ := zidx oy e3 e4
  rw [List.map_cons, List.map_cons, List.map_cons, zref (by omega)]
  have he := zws_get (b := b) (b0 := b0) (cy := cy) b1 b2
  rw [zce_100 e2] at he
  refine va_iast hx hb hKn.1 hP zws_D hS (x - 2).toNat 0 he (zTY_at rfl) i1 hd (fun H1 locs1 hP1 hD1 hS1 => ?_)
  refine g.2 hF hR a1 a2 H1 locs1 lsR ?_ hS1 hL
  rw [i2] at hP1
  rw [← zws_set (c := c) (c' := zup c x y z) b1 c00 (fun a h2 h3 => funext fun j => zup_o (Or.inl h3)) rfl]
  rw [zce_100 (c := zup c x y z x) (by rw [zup_o (Or.inr (by omega))]; exact e2), zup_o (Or.inr (by omega : (-2 : Int) ≠ y))]
  have ef : (fun j : Nat => Int32.ofInt (zup c x y z x (j : Int))) = upd (fun j : Nat => Int32.ofInt (c x (j : Int))) y.toNat (Int32.ofInt z) := by
    funext j
    unfold upd zup
    by_cases q : j = y.toNat
    · rw [if_pos q, if_pos ⟨rfl, by omega⟩]
    · rw [if_neg q, if_neg (by omega)]
  rw [ef]
  exact hP1
theorem zs_last (hd : decode cc pc = .ok (.lastore, 1)) : zSound tab own cc nL rt nm pc (zi_ast 101 1 (pc + 1)) := by
  intro D cy b b0 L xs l call p e R s m args below meth cd Q n0 s0 dl v c' hCall hbb ls st c k h hk w1 w2 w3 w4
  cases st with
  | nil => cases h
  | cons z st =>
  cases st with
  | nil => cases h
  | cons y st =>
  cases st with
  | nil => cases h
  | cons x st =>
  obtain ⟨e1, h⟩ := zc_of h
  obtain ⟨tz, z⟩ := z
  have e1 : tz = 1 := e1
  subst e1
  obtain ⟨e1, h⟩ := zc_of h
  obtain ⟨ty, y⟩ := y
  have e1 : ty = 0 := e1
  subst e1
  obtain ⟨e1, h⟩ := zc_of h
  obtain ⟨tx, x⟩ := x
  have e1 : tx = 2 := e1
  subst e1
  obtain ⟨e2, h⟩ := zi_of h
  have e2 : c x (-1) = 101 ∧ 0 ≤ y ∧ y < c x (-2) := e2
  obtain ⟨e2, e3, e4⟩ := e2
  have oy : zin32 y := (zokl_h (zokl_t w3)).1 rfl
  obtain ⟨b1, b2⟩ := zwf_a w1 (a := x) (Or.inr (Or.inr (Or.inl e2)))
  have c00 : zup c x y z 0 0 = c 0 0 := zup_o (Or.inl (by omega))
  have c01 : zup c x y z 0 1 = c 0 1 := zup_o (Or.inl (by omega))
  have g := hk _ _ _ _ h (zwf_up w1 (Or.inr (Or.inr (Or.inl e2))) e3 (fun _ => ⟨fun q => by omega, fun _ => (zokl_h w3).2 rfl, fun q1 q2 => by omega⟩)) w2 (zokl_t (zokl_t (zokl_t w3))) w4
  rw [show zup c ((2 : Nat), x).2 ((0 : Nat), y).2 ((1 : Nat), z).2 = zup c x y z from rfl, c00, c01] at g
  refine ⟨g.1, fun hF hR a1 a2 H locs lsR hP hS hL => ?_⟩
  have hF9 := hF
  obtain ⟨hx, hb, hml, hown, hts, hKn, hX, hbb2, hsz, hn0, hs0, hfr, hlo, hrc, hrs, hnm⟩ := hF9
  obtain ⟨i1, i2, i3⟩ := zidx oy e3 e4
  rw [List.map_cons, List.map_cons, List.map_cons, zref (by omega)]
  have he := zws_get (b := b) (b0 := b0) (cy := cy) b1 b2
  rw [zce_101 e2] at he
  refine va_last hx hb hKn.1 hP zws_D hS (x - 2).toNat 1 he (zTY_at rfl) i1 hd (fun H1 locs1 hP1 hD1 hS1 => ?_)
  refine g.2 hF hR a1 a2 H1 locs1 lsR ?_ hS1 hL
  rw [i2] at hP1
  rw [← zws_set (c := c) (c' := zup c x y z) b1 c00 (fun a h2 h3 => funext fun j => zup_o (Or.inl h3)) rfl]
  rw [zce_101 (c := zup c x y z x) (by rw [zup_o (Or.inr (by omega))]; exact e2), zup_o (Or.inr (by omega : (-2 : Int) ≠ y))]
  have ef : (fun j : Nat => Int64.ofInt (zup c x y z x (j : Int))) = vp_updL (fun j : Nat => Int64.ofInt (c x (j : Int))) y.toNat (Int64.ofInt z) := by
    funext j
    unfold vp_updL zup
    by_cases q : j = y.toNat
    · rw [if_pos q, if_pos ⟨rfl, by omega⟩]
    · rw [if_neg q, if_neg (by omega)]
  rw [ef]
  exact hP1
theorem zs_zast (hd : decode cc pc = .ok (.bastore, 1)) : zSound tab own cc nL rt nm pc (zi_astZ (pc + 1)) := by
  intro D cy b b0 L xs l call p e R s m args below meth cd Q n0 s0 dl v c' hCall hbb ls st c k h hk w1 w2 w3 w4
  cases st with
  | nil => cases h
  | cons z st =>
  cases st with
  | nil => cases h
  | cons y st =>
  cases st with
  | nil => cases h
  | cons x st =>
  obtain ⟨e1, h⟩ := zc_of h
  obtain ⟨tz, z⟩ := z
  have e1 : tz = 0 := e1
  subst e1
  obtain ⟨e1, h⟩ := zc_of h
  obtain ⟨ty, y⟩ := y
  have e1 : ty = 0 := e1
  subst e1
  obtain ⟨e1, h⟩ := zc_of h
  obtain ⟨tx, x⟩ := x
  have e1 : tx = 2 := e1
  subst e1
  obtain ⟨e2, h⟩ := zi_of h
  have e2 : c x (-1) = 102 ∧ 0 ≤ y ∧ y < c x (-2) := e2
  obtain ⟨e2, e3, e4⟩ := e2
  obtain ⟨e5, h⟩ := zi_of h
  have e5 : z = 0 ∨ z = 1 := e5
  have oy : zin32 y := (zokl_h (zokl_t w3)).1 rfl
  obtain ⟨b1, b2⟩ := zwf_a w1 (a := x) (Or.inr (Or.inr (Or.inr (Or.inl e2))))
  have c00 : zup c x y z 0 0 = c 0 0 := zup_o (Or.inl (by omega))
  have c01 : zup c x y z 0 1 = c 0 1 := zup_o (Or.inl (by omega))
  have g := hk _ _ _ _ h (zwf_up w1 (Or.inr (Or.inr (Or.inr (Or.inl e2)))) e3 (fun _ => ⟨fun _ => (zokl_h w3).1 rfl, fun q => by omega, fun q1 q2 => by omega⟩)) w2 (zokl_t (zokl_t (zokl_t w3))) w4
  rw [show zup c ((2 : Nat), x).2 ((0 : Nat), y).2 ((0 : Nat), z).2 = zup c x y z from rfl, c00, c01] at g
  refine ⟨g.1, fun hF hR a1 a2 H locs lsR hP hS hL => ?_⟩
  have hF9 := hF
  obtain ⟨hx, hb, hml, hown, hts, hKn, hX, hbb2, hsz, hn0, hs0, hfr, hlo, hrc, hrs, hnm⟩ := hF9
  obtain ⟨i1, i2, i3⟩ := zidx oy e3 e4
  rw [List.map_cons, List.map_cons, List.map_cons, zref (by omega)]
  have he := zws_get (b := b) (b0 := b0) (cy := cy) b1 b2
  rw [zce_102 e2] at he
  refine va_zast hx hb hKn.1 hP zws_D hS (x - 2).toNat 2 he (zTY_at rfl) i1 hd (fun H1 locs1 hP1 hD1 hS1 => ?_)
  refine g.2 hF hR a1 a2 H1 locs1 lsR ?_ hS1 hL
  rw [i2] at hP1
  rw [← zws_set (c := c) (c' := zup c x y z) b1 c00 (fun a h2 h3 => funext fun j => zup_o (Or.inl h3)) rfl]
  rw [zce_102 (c := zup c x y z x) (by rw [zup_o (Or.inr (by omega))]; exact e2), zup_o (Or.inr (by omega : (-2 : Int) ≠ y))]
  have en : vp_nar .boolean (Int32.ofInt z) = Int32.ofInt z := by rcases e5 with rfl | rfl <;> rfl
  have ef : (fun j : Nat => Int32.ofInt (zup c x y z x (j : Int))) = upd (fun j : Nat => Int32.ofInt (c x (j : Int))) y.toNat (vp_nar .boolean (Int32.ofInt z)) := by
    funext j
    rw [en]
    unfold upd zup
    by_cases q : j = y.toNat
    · rw [if_pos q, if_pos ⟨rfl, by omega⟩]
    · rw [if_neg q, if_neg (by omega)]
  rw [ef]
  exact hP1
theorem zs_aast {ci t0 : Nat} {C : String} {T : u_T} {N : Nat} {ty : Nat → FieldType} {kd : Int} (hC : zCI ci C T N ty) (hd : decode cc pc = .ok (.aastore, 1)) (hkd : kd = (ci : Int) + 1) (ht : zTY[t0]? = some (3 + ci, .object C)) : zSound tab own cc nL rt nm pc (zi_astR kd (pc + 1)) := by
  intro D cy b b0 L xs l call p e R s m args below meth cd Q n0 s0 dl v c' hCall hbb ls st c k h hk w1 w2 w3 w4
  cases st with
  | nil => cases h
  | cons z st =>
  cases st with
  | nil => cases h
  | cons y st =>
  cases st with
  | nil => cases h
  | cons x st =>
  obtain ⟨e1, h⟩ := zc_of h
  obtain ⟨tz, z⟩ := z
  have e1 : tz = 2 := e1
  subst e1
  obtain ⟨e1, h⟩ := zc_of h
  obtain ⟨ty, y⟩ := y
  have e1 : ty = 0 := e1
  subst e1
  obtain ⟨e1, h⟩ := zc_of h
  obtain ⟨tx, x⟩ := x
  have e1 : tx = 2 := e1
  subst e1
  obtain ⟨e2, h⟩ := zi_of h
  have e2 : c x (-1) = 109 + kd ∧ 0 ≤ y ∧ y < c x (-2) := e2
  obtain ⟨e2, e3, e4⟩ := e2
  obtain ⟨e5, h⟩ := zi_of h
  have e5 : c z (-1) = kd := e5
  have h12 := hC.2.1
  have e2 : c x (-1) = 110 + (ci : Int) := by omega
  have oy : zin32 y := (zokl_h (zokl_t w3)).1 rfl
  have hkx : zkd (c x (-1)) := Or.inr (Or.inr (Or.inr (Or.inr (by omega))))
  obtain ⟨b1, b2⟩ := zwf_a w1 (a := x) hkx
  have hz0 : c z (-1) = (ci : Int) + 1 := e5.trans hkd
  obtain ⟨d1, d2⟩ := zwf_a w1 (a := z) (zCI_kd hC hz0)
  have c00 : zup c x y z 0 0 = c 0 0 := zup_o (Or.inl (by omega))
  have c01 : zup c x y z 0 1 = c 0 1 := zup_o (Or.inl (by omega))
  have g := hk _ _ _ _ h (zwf_up w1 hkx e3 (fun _ => ⟨fun q => by omega, fun q => by omega, fun q1 q2 => by omega⟩)) w2 (zokl_t (zokl_t (zokl_t w3))) w4
  rw [show zup c ((2 : Nat), x).2 ((0 : Nat), y).2 ((2 : Nat), z).2 = zup c x y z from rfl, c00, c01] at g
  refine ⟨g.1, fun hF hR a1 a2 H locs lsR hP hS hL => ?_⟩
  have hF9 := hF
  obtain ⟨hx, hb, hml, hown, hts, hKn, hX, hbb2, hsz, hn0, hs0, hfr, hlo, hrc, hrs, hnm⟩ := hF9
  obtain ⟨i1, i2, i3⟩ := zidx oy e3 e4
  rw [List.map_cons, List.map_cons, List.map_cons, zref (b := b) (b0 := b0) (x := x) (by omega), zref (b := b) (b0 := b0) (x := z) (by omega)]
  have he := zws_get (b := b) (b0 := b0) (cy := cy) b1 b2
  rw [zce_r (n := ci) e2] at he
  refine va_astq (r := (C, T, N)) hx hb hKn.1 hP zws_D hS (x - 2).toNat t0 (z - 2).toNat ci he (zTY_at ht) (zCI_he hC d1 d2 hz0) hC.1 i1 hd (fun H1 locs1 hP1 hD1 hS1 => ?_)
  refine g.2 hF hR a1 a2 H1 locs1 lsR ?_ hS1 hL
  rw [i2] at hP1
  rw [← zws_set (c := c) (c' := zup c x y z) b1 c00 (fun a h2 h3 => funext fun j => zup_o (Or.inl h3)) rfl]
  rw [zce_r (n := ci) (c := zup c x y z x) (by rw [zup_o (Or.inr (by omega))]; exact e2), zup_o (Or.inr (by omega : (-2 : Int) ≠ y))]
  have ef : (fun j : Nat => zrf b b0 (zup c x y z x (j : Int))) = va_up (fun j : Nat => zrf b b0 (c x (j : Int))) y.toNat (some (zro b b0 z)) := by
    funext j
    unfold va_up zup
    by_cases q : j = y.toNat
    · rw [if_pos q, if_pos ⟨rfl, by omega⟩]
      unfold zrf; rw [if_neg (by omega)]
    · rw [if_neg q, if_neg (by omega)]
  rw [ef]
  exact hP1
/-- the address of a new cell -/
theorem znew_q {D : va_G} {cy : Nat → ClassId} {b b0 q : Nat} {c : zC} {e : va_E} (hD : va_D (zA b0) (zws b b0 cy c ++ [(q, e)])) (hn : 2 ≤ c 0 0) (hq : q < b0 + (c 0 0 - 2).toNat + 1) : q = b0 + (c 0 0 - 2).toNat := by
  have hlen : (zws b b0 cy c).length = (c 0 0 - 2).toNat := by unfold zws; simp
  have hl : (zws b b0 cy c ++ [(q, e)])[(zws b b0 cy c).length]? = some (q, e) := by simp
  have h1 : b0 ≤ q := hD.2 _ _ hl
  by_cases h : q < b0 + (c 0 0 - 2).toNat
  · have g := zws_get (b := b) (b0 := b0) (cy := cy) (c := c) (a := (q : Int) - b0 + 2) (by omega) (by omega)
    have g2 : (zws b b0 cy c ++ [(q, e)])[((q : Int) - b0 + 2 - 2).toNat]? = some (zro b b0 ((q : Int) - b0 + 2), zce b b0 cy (c ((q : Int) - b0 + 2))) := by
      rw [List.getElem?_append_left (by omega)]; exact g
    have := hD.1 _ _ _ _ g2 hl (by show zro b b0 _ = q; rw [zro_2 (by omega)]; omega)
    omega
  · omega
theorem zs_new {ci index : Nat} {C : String} {T : u_T} {N : Nat} {ty : Nat → FieldType} {kd n : Int} (hC : zCI ci C T N ty) (hd : decode cc pc = .ok (.new index, 3)) (hkd : kd = (ci : Int) + 1) (hnN : n = (N : Int)) (hN : N ≤ 20000) (hnf : ∀ j, j < N → ty j ≠ .float ∧ ty j ≠ .double) (h1 : Cond.classLink own index C ∈ zWS) (h2 : Cond.instantiable C N ∈ zWS) (h3 : Cond.initialized C ∈ zWS) : zSound tab own cc nL rt nm pc (zi_new kd n (pc + 3)) := by
  intro D cy b b0 L xs l call p e R s m args below meth cd Q n0 s0 dl v c' hCall hbb ls st c k h hk w1 w2 w3 w4
  subst hnN
  obtain ⟨n1, n2, n3, n4⟩ := zwf_new w1 (zCI_kd hC hkd) (n := (N : Int)) (Int.natCast_nonneg N) (by omega)
  have w0 := w1.1
  have w01 := w1.2.1
  have g := hk _ _ _ _ h n1 w2 (zokl_c zok2 w3) w4
  rw [n2, n3] at g
  refine ⟨⟨g.1.1, g.1.2.1, by omega, by omega⟩, fun hF hR a1 a2 H locs lsR hP hS hL => ?_⟩
  have hF9 := hF
  obtain ⟨hx, hb, hml, hown, hts, hKn, hX, hbb2, hsz, hn0, hs0, hfr, hlo, hrc, hrs, hnm⟩ := hF9
  have m1 := g.1.2.2.1
  have m2 := g.1.2.2.2
  refine va_new (fs := zfl (zV b b0) (fun _ => 0) 0 (zFT ci)) hx hb hts hC.2.2.1 ty hC.2.2.2.1 hown (hts _ h1) (hts _ h2) (hts _ h3) hKn.1 hP zws_D hS (fun q h => by show b0 ≤ q; omega) hC.1 (fun j hj => ?_) (by omega) (by omega) hd (fun q H1 hP1 hD1 hS1 => ?_)
  · unfold vp_V
    rw [List.getD_eq_getElem?_getD, zfl_get, hC.2.2.2.2.2.2 j hj]
    simp only [Option.map_some, Option.getD_some]
    have hq := hnf j hj
    revert hq
    cases ty j <;> first | (intro _; rfl) | (intro q; exact absurd rfl q.1) | (intro q; exact absurd rfl q.2)
  · rw [show (c 0 0 - n0).toNat + 1 = (c 0 0 + 1 - n0).toNat by omega, show (c 0 1 - s0).toNat + N = (c 0 1 + (N : Int) - s0).toNat by omega]
    refine zW_size (fun hu => ?_)
    have hq : q < H1.size := (hP1 (zws b b0 cy c).length (q, .inr (ci, zfl (zV b b0) (fun _ => 0) 0 (zFT ci))) (by simp)).lt
    have eq := znew_q (D := D) hD1 w0 (by omega)
    subst eq
    rw [← zro_2 (b := b) w0, ← zref (b := b) (b0 := b0) (x := c 0 0) (by omega)]
    refine g.2 hF hR (by omega) (by omega) H1 locs lsR ?_ hS1 hL
    rw [zws_new w0 n2 n4]
    have : zce b b0 cy (znew c kd (N : Int) (c 0 0)) = .inr (ci, zfl (zV b b0) (fun _ => 0) 0 (zFT ci)) := by
      rw [zce_o (n := ci) (by unfold znew; rw [if_pos rfl, if_pos rfl]; exact hkd) hC.2.1]
      congr 3
      funext k
      unfold znew
      rw [if_pos rfl, if_neg (by omega), if_neg (by omega)]
    rw [this]
    exact hP1
theorem zs_inewa (hd : decode cc pc = .ok (.newarray .int, 2)) (hw : Cond.arrayClass .int ∈ zWS) : zSound tab own cc nL rt nm pc (zi_newa 100 (pc + 2)) := by
  intro D cy b b0 L xs l call p e R s m args below meth cd Q n0 s0 dl v c' hCall hbb ls st c k h hk w1 w2 w3 w4
  cases st with
  | nil => cases h
  | cons x st =>
  obtain ⟨e1, h⟩ := zc_of h
  obtain ⟨tx, x⟩ := x
  have e1 : tx = 0 := e1
  subst e1
  obtain ⟨e2, h⟩ := zi_of h
  have e2 : 0 ≤ x ∧ x ≤ 20000 := e2
  have ox : zin32 x := (zokl_h w3).1 rfl
  obtain ⟨n1, n2, n3, n4⟩ := zwf_new w1 (kd := 100) (by unfold zkd; omega) (n := x) e2.1 e2.2
  have w0 := w1.1
  have w01 := w1.2.1
  have g := hk _ _ _ _ h n1 w2 (zokl_c zok2 (zokl_t w3)) w4
  rw [show znew c 100 ((0 : Nat), x).2 = znew c 100 x from rfl, n2, n3] at g
  refine ⟨⟨g.1.1, g.1.2.1, by omega, by omega⟩, fun hF hR a1 a2 H locs lsR hP hS hL => ?_⟩
  have hF9 := hF
  obtain ⟨hx, hb, hml, hown, hts, hKn, hX, hbb2, hsz, hn0, hs0, hfr, hlo, hrc, hrs, hnm⟩ := hF9
  have m1 := g.1.2.2.1
  have m2 := g.1.2.2.2
  refine va_newa (N' := x.toNat) (a0 := (x.toNat, .inl (fun _ => 0))) (atype := .int) (ty := .int) hx hb (hts _ hw) rfl hKn.1 hP zws_D hS (fun q h => by show b0 ≤ q; omega) (n := Int32.ofInt x) (fun _ => rfl) (by rw [z32_lt0 ox]; omega) (z32_clamp ox) (by show x.toNat * _ ≤ _; simp only [componentBytes]; omega) (by omega) (by omega) hd (fun q cA H1 hK1 hP1 hD1 hS1 => ?_)
  have ecA : cA = cy 0 := by
    have q1 : s.vm.findClass ("[" ++ FieldType.toString .int) = some cA := (hK1.2 (zTY.map fun q => (cy q.1, q.2)).length (cA, .int) (by simp)).2
    have q2 : s.vm.findClass ("[" ++ FieldType.toString .int) = some (cy 0) := (hKn.1.2 0 _ (zTY_at rfl)).2
    exact Option.some.inj (q1.symm.trans q2)
  subst ecA
  rw [show (c 0 0 - n0).toNat + 1 = (c 0 0 + 1 - n0).toNat by omega, show (c 0 1 - s0).toNat + x.toNat = (c 0 1 + x - s0).toNat by omega]
  refine zW_size (fun hu => ?_)
  have hq : q < H1.size := (hP1 (zws b b0 cy c).length (q, .inl (cy 0, x.toNat, .inl (fun _ => 0))) (by simp)).lt
  have eq := znew_q (D := D) hD1 w0 (by omega)
  subst eq
  rw [← zro_2 (b := b) w0, ← zref (b := b) (b0 := b0) (x := c 0 0) (by omega)]
  refine g.2 hF hR (by omega) (by omega) H1 locs lsR ?_ hS1 hL
  rw [zws_new w0 n2 n4]
  have : zce b b0 cy (znew c 100 x (c 0 0)) = .inl (cy 0, x.toNat, .inl (fun _ => 0)) := by
    rw [zce_100 (by unfold znew; rw [if_pos rfl, if_pos rfl])]
    have e1 : znew c 100 x (c 0 0) (-2) = x := by unfold znew; rw [if_pos rfl, if_neg (by decide), if_pos rfl]
    have e3 : ∀ k : Nat, znew c 100 x (c 0 0) (k : Int) = 0 := fun k => by unfold znew; rw [if_pos rfl, if_neg (by omega), if_neg (by omega)]
    rw [e1]
    simp only [e3]
    rfl
  rw [this]
  exact hP1
theorem zs_lnewa (hd : decode cc pc = .ok (.newarray .long, 2)) (hw : Cond.arrayClass .long ∈ zWS) : zSound tab own cc nL rt nm pc (zi_newa 101 (pc + 2)) := by
  intro D cy b b0 L xs l call p e R s m args below meth cd Q n0 s0 dl v c' hCall hbb ls st c k h hk w1 w2 w3 w4
  cases st with
  | nil => cases h
  | cons x st =>
  obtain ⟨e1, h⟩ := zc_of h
  obtain ⟨tx, x⟩ := x
  have e1 : tx = 0 := e1
  subst e1
  obtain ⟨e2, h⟩ := zi_of h
  have e2 : 0 ≤ x ∧ x ≤ 20000 := e2
  have ox : zin32 x := (zokl_h w3).1 rfl
  obtain ⟨n1, n2, n3, n4⟩ := zwf_new w1 (kd := 101) (by unfold zkd; omega) (n := x) e2.1 e2.2
  have w0 := w1.1
  have w01 := w1.2.1
  have g := hk _ _ _ _ h n1 w2 (zokl_c zok2 (zokl_t w3)) w4
  rw [show znew c 101 ((0 : Nat), x).2 = znew c 101 x from rfl, n2, n3] at g
  refine ⟨⟨g.1.1, g.1.2.1, by omega, by omega⟩, fun hF hR a1 a2 H locs lsR hP hS hL => ?_⟩
  have hF9 := hF
  obtain ⟨hx, hb, hml, hown, hts, hKn, hX, hbb2, hsz, hn0, hs0, hfr, hlo, hrc, hrs, hnm⟩ := hF9
  have m1 := g.1.2.2.1
  have m2 := g.1.2.2.2
  refine va_newa (N' := x.toNat) (a0 := (x.toNat, .inr (.inl (fun _ => 0)))) (atype := .long) (ty := .long) hx hb (hts _ hw) rfl hKn.1 hP zws_D hS (fun q h => by show b0 ≤ q; omega) (n := Int32.ofInt x) (fun _ => rfl) (by rw [z32_lt0 ox]; omega) (z32_clamp ox) (by show x.toNat * _ ≤ _; simp only [componentBytes]; omega) (by omega) (by omega) hd (fun q cA H1 hK1 hP1 hD1 hS1 => ?_)
  have ecA : cA = cy 1 := by
    have q1 : s.vm.findClass ("[" ++ FieldType.toString .long) = some cA := (hK1.2 (zTY.map fun q => (cy q.1, q.2)).length (cA, .long) (by simp)).2
    have q2 : s.vm.findClass ("[" ++ FieldType.toString .long) = some (cy 1) := (hKn.1.2 1 _ (zTY_at rfl)).2
    exact Option.some.inj (q1.symm.trans q2)
  subst ecA
  rw [show (c 0 0 - n0).toNat + 1 = (c 0 0 + 1 - n0).toNat by omega, show (c 0 1 - s0).toNat + x.toNat = (c 0 1 + x - s0).toNat by omega]
  refine zW_size (fun hu => ?_)
  have hq : q < H1.size := (hP1 (zws b b0 cy c).length (q, .inl (cy 1, x.toNat, .inr (.inl (fun _ => 0)))) (by simp)).lt
  have eq := znew_q (D := D) hD1 w0 (by omega)
  subst eq
  rw [← zro_2 (b := b) w0, ← zref (b := b) (b0 := b0) (x := c 0 0) (by omega)]
  refine g.2 hF hR (by omega) (by omega) H1 locs lsR ?_ hS1 hL
  rw [zws_new w0 n2 n4]
  have : zce b b0 cy (znew c 101 x (c 0 0)) = .inl (cy 1, x.toNat, .inr (.inl (fun _ => 0))) := by
    rw [zce_101 (by unfold znew; rw [if_pos rfl, if_pos rfl])]
    have e1 : znew c 101 x (c 0 0) (-2) = x := by unfold znew; rw [if_pos rfl, if_neg (by decide), if_pos rfl]
    have e3 : ∀ k : Nat, znew c 101 x (c 0 0) (k : Int) = 0 := fun k => by unfold znew; rw [if_pos rfl, if_neg (by omega), if_neg (by omega)]
    rw [e1]
    simp only [e3]
    rfl
  rw [this]
  exact hP1
theorem zs_znewa (hd : decode cc pc = .ok (.newarray .boolean, 2)) (hw : Cond.arrayClass .boolean ∈ zWS) : zSound tab own cc nL rt nm pc (zi_newa 102 (pc + 2)) := by
  intro D cy b b0 L xs l call p e R s m args below meth cd Q n0 s0 dl v c' hCall hbb ls st c k h hk w1 w2 w3 w4
  cases st with
  | nil => cases h
  | cons x st =>
  obtain ⟨e1, h⟩ := zc_of h
  obtain ⟨tx, x⟩ := x
  have e1 : tx = 0 := e1
  subst e1
  obtain ⟨e2, h⟩ := zi_of h
  have e2 : 0 ≤ x ∧ x ≤ 20000 := e2
  have ox : zin32 x := (zokl_h w3).1 rfl
  obtain ⟨n1, n2, n3, n4⟩ := zwf_new w1 (kd := 102) (by unfold zkd; omega) (n := x) e2.1 e2.2
  have w0 := w1.1
  have w01 := w1.2.1
  have g := hk _ _ _ _ h n1 w2 (zokl_c zok2 (zokl_t w3)) w4
  rw [show znew c 102 ((0 : Nat), x).2 = znew c 102 x from rfl, n2, n3] at g
  refine ⟨⟨g.1.1, g.1.2.1, by omega, by omega⟩, fun hF hR a1 a2 H locs lsR hP hS hL => ?_⟩
  have hF9 := hF
  obtain ⟨hx, hb, hml, hown, hts, hKn, hX, hbb2, hsz, hn0, hs0, hfr, hlo, hrc, hrs, hnm⟩ := hF9
  have m1 := g.1.2.2.1
  have m2 := g.1.2.2.2
  refine va_newa (N' := x.toNat) (a0 := (x.toNat, .inl (fun _ => 0))) (atype := .boolean) (ty := .boolean) hx hb (hts _ hw) rfl hKn.1 hP zws_D hS (fun q h => by show b0 ≤ q; omega) (n := Int32.ofInt x) (fun _ => rfl) (by rw [z32_lt0 ox]; omega) (z32_clamp ox) (by show x.toNat * _ ≤ _; simp only [componentBytes]; omega) (by omega) (by omega) hd (fun q cA H1 hK1 hP1 hD1 hS1 => ?_)
  have ecA : cA = cy 2 := by
    have q1 : s.vm.findClass ("[" ++ FieldType.toString .boolean) = some cA := (hK1.2 (zTY.map fun q => (cy q.1, q.2)).length (cA, .boolean) (by simp)).2
    have q2 : s.vm.findClass ("[" ++ FieldType.toString .boolean) = some (cy 2) := (hKn.1.2 2 _ (zTY_at rfl)).2
    exact Option.some.inj (q1.symm.trans q2)
  subst ecA
  rw [show (c 0 0 - n0).toNat + 1 = (c 0 0 + 1 - n0).toNat by omega, show (c 0 1 - s0).toNat + x.toNat = (c 0 1 + x - s0).toNat by omega]
  refine zW_size (fun hu => ?_)
  have hq : q < H1.size := (hP1 (zws b b0 cy c).length (q, .inl (cy 2, x.toNat, .inl (fun _ => 0))) (by simp)).lt
  have eq := znew_q (D := D) hD1 w0 (by omega)
  subst eq
  rw [← zro_2 (b := b) w0, ← zref (b := b) (b0 := b0) (x := c 0 0) (by omega)]
  refine g.2 hF hR (by omega) (by omega) H1 locs lsR ?_ hS1 hL
  rw [zws_new w0 n2 n4]
  have : zce b b0 cy (znew c 102 x (c 0 0)) = .inl (cy 2, x.toNat, .inl (fun _ => 0)) := by
    rw [zce_102 (by unfold znew; rw [if_pos rfl, if_pos rfl])]
    have e1 : znew c 102 x (c 0 0) (-2) = x := by unfold znew; rw [if_pos rfl, if_neg (by decide), if_pos rfl]
    have e3 : ∀ k : Nat, znew c 102 x (c 0 0) (k : Int) = 0 := fun k => by unfold znew; rw [if_pos rfl, if_neg (by omega), if_neg (by omega)]
    rw [e1]
    simp only [e3]
    rfl
  rw [this]
  exact hP1
theorem zs_anew {ci index t0 : Nat} {C : String} {kd : Int} (hd : decode cc pc = .ok (.anewarray index, 3)) (hci : ci < 12) (hkd : kd = 110 + (ci : Int)) (h1 : Cond.classLink own index C ∈ zWS) (hao : C ∈ zAO) (ht : zTY[t0]? = some (3 + ci, .object C)) : zSound tab own cc nL rt nm pc (zi_newa kd (pc + 3)) := by
  intro D cy b b0 L xs l call p e R s m args below meth cd Q n0 s0 dl v c' hCall hbb ls st c k h hk w1 w2 w3 w4
  cases st with
  | nil => cases h
  | cons x st =>
  obtain ⟨e1, h⟩ := zc_of h
  obtain ⟨tx, x⟩ := x
  have e1 : tx = 0 := e1
  subst e1
  obtain ⟨e2, h⟩ := zi_of h
  have e2 : 0 ≤ x ∧ x ≤ 20000 := e2
  have ox : zin32 x := (zokl_h w3).1 rfl
  have hkd2 : zkd kd := Or.inr (Or.inr (Or.inr (Or.inr (by omega))))
  obtain ⟨n1, n2, n3, n4⟩ := zwf_new w1 hkd2 (n := x) e2.1 e2.2
  have w0 := w1.1
  have w01 := w1.2.1
  have g := hk _ _ _ _ h n1 w2 (zokl_c zok2 (zokl_t w3)) w4
  rw [show znew c kd ((0 : Nat), x).2 = znew c kd x from rfl, n2, n3] at g
  refine ⟨⟨g.1.1, g.1.2.1, by omega, by omega⟩, fun hF hR a1 a2 H locs lsR hP hS hL => ?_⟩
  have hF9 := hF
  obtain ⟨hx, hb, hml, hown, hts, hKn, hX, hbb2, hsz, hn0, hs0, hfr, hlo, hrc, hrs, hnm⟩ := hF9
  have m1 := g.1.2.2.1
  have m2 := g.1.2.2.2
  refine va_newq (N' := x.toNat) (C := C) hx hb hown (hts _ h1) (hKn.2.2 C hao) hKn.1 hP zws_D hS (fun q h => by show b0 ≤ q; omega) (n := Int32.ofInt x) (by rw [z32_lt0 ox]; omega) (z32_clamp ox) (by omega) (by omega) (by omega) hd (fun q cA H1 hK1 hP1 hD1 hS1 => ?_)
  have ecA : cA = cy (3 + ci) := by
    have q1 := (hK1.2 (zTY.map fun q => (cy q.1, q.2)).length (cA, .object C) (by simp)).2
    have q2 := (hKn.1.2 t0 _ (zTY_at ht)).2
    obtain ⟨_, _, _, _, _, q1⟩ := q1
    obtain ⟨_, _, _, _, _, q2⟩ := q2
    exact Option.some.inj (q1.symm.trans q2)
  subst ecA
  rw [show (c 0 0 - n0).toNat + 1 = (c 0 0 + 1 - n0).toNat by omega, show (c 0 1 - s0).toNat + x.toNat = (c 0 1 + x - s0).toNat by omega]
  refine zW_size (fun hu => ?_)
  have hq : q < H1.size := (hP1 (zws b b0 cy c).length (q, .inl (cy (3 + ci), x.toNat, .inr (.inr (.inr (.inr (fun _ => none)))))) (by simp)).lt
  have eq := znew_q (D := D) hD1 w0 (by omega)
  subst eq
  rw [← zro_2 (b := b) w0, ← zref (b := b) (b0 := b0) (x := c 0 0) (by omega)]
  refine g.2 hF hR (by omega) (by omega) H1 locs lsR ?_ hS1 hL
  rw [zws_new w0 n2 n4]
  have : zce b b0 cy (znew c kd x (c 0 0)) = .inl (cy (3 + ci), x.toNat, .inr (.inr (.inr (.inr (fun _ => none))))) := by
    rw [zce_r (n := ci) (by unfold znew; rw [if_pos rfl, if_pos rfl]; exact hkd)]
    have e1 : znew c kd x (c 0 0) (-2) = x := by unfold znew; rw [if_pos rfl, if_neg (by decide), if_pos rfl]
    have e3 : ∀ k : Nat, znew c kd x (c 0 0) (k : Int) = 0 := fun k => by unfold znew; rw [if_pos rfl, if_neg (by omega), if_neg (by omega)]
    rw [e1]
    simp only [e3]
    rfl
  rw [this]
  exact hP1
theorem zs_max {index : Nat} (hd : decode cc pc = .ok (.invokestatic index, 3)) (h1 : Cond.methodLink own index Lib.Math.max.name ∈ zWS) (h2 : Cond.static Lib.Math.max.name ∈ zWS) (h3 : Cond.initialized "java/lang/Math" ∈ zWS) (h4 : Cond.code Lib.Math.max.name Lib.Math.max.code 2 (some .int) ∈ zWS) : zSound tab own cc nL rt nm pc (zi_minmax zmax (pc + 3)) := by
  intro D cy b b0 L xs l call p e R s m args below meth cd Q n0 s0 dl v c' hCall hbb ls st c k h hk w1 w2 w3 w4
  cases st with
  | nil => cases h
  | cons y st =>
  cases st with
  | nil => cases h
  | cons x st =>
  obtain ⟨e1, h⟩ := zc_of h
  obtain ⟨ty, y⟩ := y
  have e1 : ty = 0 := e1
  subst e1
  obtain ⟨e1, h⟩ := zc_of h
  obtain ⟨tx, x⟩ := x
  have e1 : tx = 0 := e1
  subst e1
  obtain ⟨e2, h⟩ := zc_le h
  have oy : zin32 y := (zokl_h w3).1 rfl
  have ox : zin32 x := (zokl_h (zokl_t w3)).1 rfl
  have g := hk _ _ _ _ h w1 w2 (zokl_c (zok0 (by show zin32 (zmax x y); unfold zmax; split <;> assumption)) (zokl_t (zokl_t w3))) w4
  refine ⟨g.1, fun hF hR a1 a2 H locs lsR hP hS hL => ?_⟩
  have hF9 := hF
  obtain ⟨hx, hb, hml, hown, hts, hKn, hX, hbb2, hsz, hn0, hs0, hfr, hlo, hrc, hrs, hnm⟩ := hF9
  have m1 := g.1.2.2.1
  have m2 := g.1.2.2.2
  refine va_mmax hx hb (by rw [hml, hL.1]) hown (hts _ h1) (hts _ h2) (hts _ h3) (hts _ h4) (by omega) (by rw [zcat_eq]; omega) (by omega) (by omega) (x := Int32.ofInt x) (y := Int32.ofInt y) hd ?_
  have g2 := g.2 hF hR a1 a2 H locs lsR hP hS hL
  rw [List.map_cons, show zV b b0 (0, zmax (0, x).2 (0, y).2) = .int (Int32.ofInt (zmax x y)) from rfl] at g2
  have e5 : (if Int32.ofInt x < Int32.ofInt y then Int32.ofInt y else Int32.ofInt x) = Int32.ofInt (zmax x y) := by
    unfold zmax
    by_cases q : x < y
    · rw [if_pos q, if_pos ((z32_lt ox oy).mpr q)]
    · rw [if_neg q, if_neg (fun z => q ((z32_lt ox oy).mp z))]
  rw [e5]; exact g2
theorem zs_min {index : Nat} (hd : decode cc pc = .ok (.invokestatic index, 3)) (h1 : Cond.methodLink own index Lib.Math.min.name ∈ zWS) (h2 : Cond.static Lib.Math.min.name ∈ zWS) (h3 : Cond.initialized "java/lang/Math" ∈ zWS) (h4 : Cond.code Lib.Math.min.name Lib.Math.min.code 2 (some .int) ∈ zWS) : zSound tab own cc nL rt nm pc (zi_minmax zmin (pc + 3)) := by
  intro D cy b b0 L xs l call p e R s m args below meth cd Q n0 s0 dl v c' hCall hbb ls st c k h hk w1 w2 w3 w4
  cases st with
  | nil => cases h
  | cons y st =>
  cases st with
  | nil => cases h
  | cons x st =>
  obtain ⟨e1, h⟩ := zc_of h
  obtain ⟨ty, y⟩ := y
  have e1 : ty = 0 := e1
  subst e1
  obtain ⟨e1, h⟩ := zc_of h
  obtain ⟨tx, x⟩ := x
  have e1 : tx = 0 := e1
  subst e1
  obtain ⟨e2, h⟩ := zc_le h
  have oy : zin32 y := (zokl_h w3).1 rfl
  have ox : zin32 x := (zokl_h (zokl_t w3)).1 rfl
  have g := hk _ _ _ _ h w1 w2 (zokl_c (zok0 (by show zin32 (zmin x y); unfold zmin; split <;> assumption)) (zokl_t (zokl_t w3))) w4
  refine ⟨g.1, fun hF hR a1 a2 H locs lsR hP hS hL => ?_⟩
  have hF9 := hF
  obtain ⟨hx, hb, hml, hown, hts, hKn, hX, hbb2, hsz, hn0, hs0, hfr, hlo, hrc, hrs, hnm⟩ := hF9
  have m1 := g.1.2.2.1
  have m2 := g.1.2.2.2
  refine va_mmin hx hb (by rw [hml, hL.1]) hown (hts _ h1) (hts _ h2) (hts _ h3) (hts _ h4) (by omega) (by rw [zcat_eq]; omega) (by omega) (by omega) (x := Int32.ofInt x) (y := Int32.ofInt y) hd ?_
  have g2 := g.2 hF hR a1 a2 H locs lsR hP hS hL
  rw [List.map_cons, show zV b b0 (0, zmin (0, x).2 (0, y).2) = .int (Int32.ofInt (zmin x y)) from rfl] at g2
  have e5 : (if Int32.ofInt y < Int32.ofInt x then Int32.ofInt y else Int32.ofInt x) = Int32.ofInt (zmin x y) := by
    unfold zmin
    by_cases q : y < x
    · rw [if_pos q, if_pos ((z32_lt oy ox).mpr q)]
    · rw [if_neg q, if_neg (fun z => q ((z32_lt oy ox).mp z))]
  rw [e5]; exact g2
theorem zs_icopy {index : Nat} (hd : decode cc pc = .ok (.invokestatic index, 3)) (h1 : Cond.methodLink own index arraycopyName ∈ zWS) (h2 : Cond.native arraycopyName ∈ zWS) (h3 : Cond.static arraycopyName ∈ zWS) (h4 : Cond.initialized "java/lang/System" ∈ zWS) : zSound tab own cc nL rt nm pc (zi_copy 100 (pc + 3)) := by
  intro D cy b b0 L xs l call p e R s m args below meth cd Q n0 s0 dl v c' hCall hbb ls st c k h hk w1 w2 w3 w4
  cases st with
  | nil => cases h
  | cons z st =>
  cases st with
  | nil => cases h
  | cons y st =>
  cases st with
  | nil => cases h
  | cons x st =>
  cases st with
  | nil => cases h
  | cons q st =>
  cases st with
  | nil => cases h
  | cons r st =>
  obtain ⟨e1, h⟩ := zc_of h
  obtain ⟨tz, z⟩ := z
  have e1 : tz = 0 := e1
  subst e1
  obtain ⟨e1, h⟩ := zc_of h
  obtain ⟨ty, y⟩ := y
  have e1 : ty = 0 := e1
  subst e1
  obtain ⟨e1, h⟩ := zc_of h
  obtain ⟨tx, x⟩ := x
  have e1 : tx = 2 := e1
  subst e1
  obtain ⟨e1, h⟩ := zc_of h
  obtain ⟨tq, q⟩ := q
  have e1 : tq = 0 := e1
  subst e1
  obtain ⟨e1, h⟩ := zc_of h
  obtain ⟨tr, r⟩ := r
  have e1 : tr = 2 := e1
  subst e1
  obtain ⟨e9, h⟩ := zc_le h
  obtain ⟨e2, h⟩ := zi_of h
  have e2 : c r (-1) = 100 ∧ c x (-1) = 100 ∧ 0 ≤ z ∧ 0 ≤ q ∧ 0 ≤ y ∧ q + z ≤ c r (-2) ∧ y + z ≤ c x (-2) := e2
  obtain ⟨e2, e3, e4, e5, e6, e7, e8⟩ := e2
  have oz : zin32 z := (zokl_h w3).1 rfl
  have oy : zin32 y := (zokl_h (zokl_t w3)).1 rfl
  have oq : zin32 q := (zokl_h (zokl_t (zokl_t (zokl_t w3)))).1 rfl
  obtain ⟨b1, b2⟩ := zwf_a w1 (a := r) (Or.inr (Or.inl e2))
  obtain ⟨d1, d2⟩ := zwf_a w1 (a := x) (Or.inr (Or.inl e3))
  obtain ⟨n1, n4⟩ := zwf_copy w1 (s := r) (sp := q) (d := x) (dp := y) (n := z) (Or.inr (Or.inl e2)) (by omega) (by omega) e5 e6
  have c00 : zcopy c r q x y z 0 = c 0 := n4 0 (by omega)
  have g := hk _ _ _ _ h n1 w2 (zokl_t (zokl_t (zokl_t (zokl_t (zokl_t w3))))) w4
  rw [show zcopy c ((2 : Nat), r).2 ((0 : Nat), q).2 ((2 : Nat), x).2 ((0 : Nat), y).2 ((0 : Nat), z).2 = zcopy c r q x y z from rfl, c00] at g
  refine ⟨g.1, fun hF hR a1 a2 H locs lsR hP hS hL => ?_⟩
  have hF9 := hF
  obtain ⟨hx, hb, hml, hown, hts, hKn, hX, hbb2, hsz, hn0, hs0, hfr, hlo, hrc, hrs, hnm⟩ := hF9
  simp only [List.map_cons]
  rw [zref (b := b) (b0 := b0) (x := r) (by omega), zref (b := b) (b0 := b0) (x := x) (by omega)]
  have he := zws_get (b := b) (b0 := b0) (cy := cy) b1 b2
  rw [zce_100 e2] at he
  have hf := zws_get (b := b) (b0 := b0) (cy := cy) d1 d2
  rw [zce_100 e3] at hf
  refine va_copyi (ty := .int) hx hb (by rw [hml, hL.1]) hown (hts _ h1) (hts _ h2) (hts _ h3) (hts _ h4) hKn.1 hP zws_D hS (r - 2).toNat (x - 2).toNat 0 0 he hf (zTY_at rfl) (zTY_at rfl) rfl (sp := Int32.ofInt q) (dp := Int32.ofInt y) (n := Int32.ofInt z) (by rw [z32_lt0 oq]; omega) (by rw [z32_lt0 oy]; omega) (by rw [z32_lt0 oz]; omega) (by rw [z32_clamp oq, z32_clamp oz]; omega) (by rw [z32_clamp oy, z32_clamp oz]; omega) (fun i hi => rfl) (by omega) (by rw [zcat_eq, show nativeFrameWords "java/lang/System" "arraycopy" 5 = 7 from by decide +kernel]; omega) hd (fun H1 locs1 hP1 hD1 hS1 => ?_)
  refine g.2 hF hR a1 a2 H1 locs1 lsR ?_ hS1 hL
  rw [z32_clamp oq, z32_clamp oy, z32_clamp oz] at hP1
  have el : zcopy c r q x y z x (-2) = c x (-2) := by unfold zcopy; rw [if_neg (by omega)]
  rw [← zws_set (c := c) (c' := zcopy c r q x y z) d1 (by rw [c00]) (fun a _ h3 => n4 a h3) rfl]
  rw [zce_100 (c := zcopy c r q x y z x) (by unfold zcopy; rw [if_neg (by omega)]; exact e3), el]
  have ef : (fun j : Nat => Int32.ofInt (zcopy c r q x y z x (j : Int))) = va_cpy (fun j : Nat => Int32.ofInt (c r (j : Int))) (fun j : Nat => Int32.ofInt (c x (j : Int))) q.toNat y.toNat z.toNat := by
    funext j
    unfold va_cpy zcopy
    by_cases hj : y.toNat ≤ j ∧ j < y.toNat + z.toNat
    · rw [if_pos hj, if_pos (by omega)]
      congr 2
      omega
    · rw [if_neg hj, if_neg (by omega)]
  rw [ef]
  exact hP1
theorem zs_lcopy {index : Nat} (hd : decode cc pc = .ok (.invokestatic index, 3)) (h1 : Cond.methodLink own index arraycopyName ∈ zWS) (h2 : Cond.native arraycopyName ∈ zWS) (h3 : Cond.static arraycopyName ∈ zWS) (h4 : Cond.initialized "java/lang/System" ∈ zWS) : zSound tab own cc nL rt nm pc (zi_copy 101 (pc + 3)) := by
  intro D cy b b0 L xs l call p e R s m args below meth cd Q n0 s0 dl v c' hCall hbb ls st c k h hk w1 w2 w3 w4
  cases st with
  | nil => cases h
  | cons z st =>
  cases st with
  | nil => cases h
  | cons y st =>
  cases st with
  | nil => cases h
  | cons x st =>
  cases st with
  | nil => cases h
  | cons q st =>
  cases st with
  | nil => cases h
  | cons r st =>
  obtain ⟨e1, h⟩ := zc_of h
  obtain ⟨tz, z⟩ := z
  have e1 : tz = 0 := e1
  subst e1
  obtain ⟨e1, h⟩ := zc_of h
  obtain ⟨ty, y⟩ := y
  have e1 : ty = 0 := e1
  subst e1
  obtain ⟨e1, h⟩ := zc_of h
  obtain ⟨tx, x⟩ := x
  have e1 : tx = 2 := e1
  subst e1
  obtain ⟨e1, h⟩ := zc_of h
  obtain ⟨tq, q⟩ := q
  have e1 : tq = 0 := e1
  subst e1
  obtain ⟨e1, h⟩ := zc_of h
  obtain ⟨tr, r⟩ := r
  have e1 : tr = 2 := e1
  subst e1
  obtain ⟨e9, h⟩ := zc_le h
  obtain ⟨e2, h⟩ := zi_of h
  have e2 : c r (-1) = 101 ∧ c x (-1) = 101 ∧ 0 ≤ z ∧ 0 ≤ q ∧ 0 ≤ y ∧ q + z ≤ c r (-2) ∧ y + z ≤ c x (-2) := e2
  obtain ⟨e2, e3, e4, e5, e6, e7, e8⟩ := e2
  have oz : zin32 z := (zokl_h w3).1 rfl
  have oy : zin32 y := (zokl_h (zokl_t w3)).1 rfl
  have oq : zin32 q := (zokl_h (zokl_t (zokl_t (zokl_t w3)))).1 rfl
  obtain ⟨b1, b2⟩ := zwf_a w1 (a := r) (Or.inr (Or.inr (Or.inl e2)))
  obtain ⟨d1, d2⟩ := zwf_a w1 (a := x) (Or.inr (Or.inr (Or.inl e3)))
  obtain ⟨n1, n4⟩ := zwf_copy w1 (s := r) (sp := q) (d := x) (dp := y) (n := z) (Or.inr (Or.inr (Or.inl e2))) (by omega) (by omega) e5 e6
  have c00 : zcopy c r q x y z 0 = c 0 := n4 0 (by omega)
  have g := hk _ _ _ _ h n1 w2 (zokl_t (zokl_t (zokl_t (zokl_t (zokl_t w3))))) w4
  rw [show zcopy c ((2 : Nat), r).2 ((0 : Nat), q).2 ((2 : Nat), x).2 ((0 : Nat), y).2 ((0 : Nat), z).2 = zcopy c r q x y z from rfl, c00] at g
  refine ⟨g.1, fun hF hR a1 a2 H locs lsR hP hS hL => ?_⟩
  have hF9 := hF
  obtain ⟨hx, hb, hml, hown, hts, hKn, hX, hbb2, hsz, hn0, hs0, hfr, hlo, hrc, hrs, hnm⟩ := hF9
  simp only [List.map_cons]
  rw [zref (b := b) (b0 := b0) (x := r) (by omega), zref (b := b) (b0 := b0) (x := x) (by omega)]
  have he := zws_get (b := b) (b0 := b0) (cy := cy) b1 b2
  rw [zce_101 e2] at he
  have hf := zws_get (b := b) (b0 := b0) (cy := cy) d1 d2
  rw [zce_101 e3] at hf
  refine va_copyl (ty := .long) hx hb (by rw [hml, hL.1]) hown (hts _ h1) (hts _ h2) (hts _ h3) (hts _ h4) hKn.1 hP zws_D hS (r - 2).toNat (x - 2).toNat 1 1 he hf (zTY_at rfl) (zTY_at rfl) rfl (sp := Int32.ofInt q) (dp := Int32.ofInt y) (n := Int32.ofInt z) (by rw [z32_lt0 oq]; omega) (by rw [z32_lt0 oy]; omega) (by rw [z32_lt0 oz]; omega) (by rw [z32_clamp oq, z32_clamp oz]; omega) (by rw [z32_clamp oy, z32_clamp oz]; omega) (fun i hi => rfl) (by omega) (by rw [zcat_eq, show nativeFrameWords "java/lang/System" "arraycopy" 5 = 7 from by decide +kernel]; omega) hd (fun H1 locs1 hP1 hD1 hS1 => ?_)
  refine g.2 hF hR a1 a2 H1 locs1 lsR ?_ hS1 hL
  rw [z32_clamp oq, z32_clamp oy, z32_clamp oz] at hP1
  have el : zcopy c r q x y z x (-2) = c x (-2) := by unfold zcopy; rw [if_neg (by omega)]
  rw [← zws_set (c := c) (c' := zcopy c r q x y z) d1 (by rw [c00]) (fun a _ h3 => n4 a h3) rfl]
  rw [zce_101 (c := zcopy c r q x y z x) (by unfold zcopy; rw [if_neg (by omega)]; exact e3), el]
  have ef : (fun j : Nat => Int64.ofInt (zcopy c r q x y z x (j : Int))) = va_cpy (fun j : Nat => Int64.ofInt (c r (j : Int))) (fun j : Nat => Int64.ofInt (c x (j : Int))) q.toNat y.toNat z.toNat := by
    funext j
    unfold va_cpy zcopy
    by_cases hj : y.toNat ≤ j ∧ j < y.toNat + z.toNat
    · rw [if_pos hj, if_pos (by omega)]
      congr 2
      omega
    · rw [if_neg hj, if_neg (by omega)]
  rw [ef]
  exact hP1
-- calls
theorem zcall_W {D : va_G} {cy : Nat → ClassId} {b b0 : Nat} {l : Launch} {p : Program} {e : Env} {R : Room} {s : State} {m : MethodId} {args a : Array Value} {below : List Frame} {meth : Method} {cd : Code} {Q : State → Prop} {H : Heap} {locs : List Loc} {cells slots mc ms : Nat} {lsR : Array Slot} {st0 rest : List Value} {rq : Option FieldType} {v1 : Int} {c1 : zC}
    (hr : va_Run p l e R s m args below meth cd H locs cells slots mc ms (F0 m pc lsR st0) rest (zQc D cy b b0 rq v1 c1 a) (zA b0)) (hS : va_S (zA b0) s.heap H locs)
    (kk : ∀ (H1 : Heap) (locs1 : List Loc), va_P D vwCl (zws b b0 cy c1) H1 → va_S (zA b0) s.heap H1 locs1 → W p l e R s m args below meth cd H1 locs1 (cells + mc) (slots + ms) Q (F0 m (pc + 3) lsR ((zrv b b0 rq v1).toList ++ rest))) : W p l e R s m args below meth cd H locs cells slots Q (F0 m pc lsR st0) := by
  intro T hT X
  obtain ⟨v, st₀, t, T', L, h0, X', hL, e1, e2, ⟨hv, hp, hz, hk⟩, st⟩ := hr T hT X
  cases hv
  rw [h0] at hz hk
  obtain ⟨t2, a1, b1⟩ := kk T'.heap (locs ++ L) (by rw [e1]; exact hp)
    ⟨Nat.le_trans hS.1 (by rw [e1]; exact hz), fun q h1 h2 => by rw [e1, hk q (Nat.lt_of_lt_of_le h1 hS.1) h2]; exact hS.2.1 q h1 h2, fun q hq => by
      rcases List.mem_append.mp hq with h | h
      · exact hS.2.2 q h
      · exact hL q h⟩ T' rfl X'
  exact ⟨t2, st t2 a1, b1⟩
theorem zok_zip {ts : List Nat} {as : List Int} {rest : List zTV} (h : zokl (List.zip ts as ++ rest)) : zokl (List.zip ts as) ∧ zokl rest := ⟨fun q hq => h q (List.mem_append_left _ hq), fun q hq => h q (List.mem_append_right _ hq)⟩
theorem zzip_rev {α β : Type} {ts : List α} {as : List β} (hl : as.length = ts.length) : (List.zip ts as).reverse = List.zip ts.reverse as.reverse := by
  induction ts generalizing as with
  | nil => simp
  | cons t ts ih =>
    cases as with
    | nil => simp at hl
    | cons a as =>
      have hl : as.length = ts.length := by simpa using hl
      rw [List.zip_cons_cons, List.reverse_cons, List.reverse_cons, List.reverse_cons, List.zip_append (by simp [hl]), ih hl]
      rfl
theorem zok_rev {ts : List Nat} {as : List Int} (hl : as.length = ts.length) (h : zokl (List.zip ts as)) : zokl (List.zip ts.reverse as.reverse) := by
  rw [← zzip_rev hl]
  exact fun q hq => h q (List.mem_reverse.mp hq)
theorem zip_rev {ts : List Nat} {as : List Int} {V : zTV → Value} (hl : as.length = ts.length) : (List.zip ts as).map V = ((List.zip ts.reverse as.reverse).map V).reverse := by
  rw [← zzip_rev hl, List.map_reverse, List.reverse_reverse]
/-- what the small machine does with an answer, and the real one -/
theorem zans {b b0 : Nat} {rq : Option FieldType} {v1 : Int} {rk : Nat} {r : List zTV} (hrk : rk = match rq with | none => 3 | some ty => ztg ty) : (zrv b b0 rq v1).toList ++ r.map (zV b b0) = (cond (Nat.beq rk 3) r ((rk, v1) :: r)).map (zV b b0) := by
  cases rq with
  | none => subst hrk; rfl
  | some ty =>
    have e : Nat.beq rk 3 = false := by rw [hrk]; cases ty <;> rfl
    rw [e, hrk]
    rfl
theorem zans_ok {rq : Option FieldType} {v1 : Int} {rk : Nat} {r : List zTV} (hrk : rk = match rq with | none => 3 | some ty => ztg ty) (h : zokr rq v1) (hr : zokl r) : zokl (cond (Nat.beq rk 3) r ((rk, v1) :: r)) := by
  cases rq with
  | none => subst hrk; exact hr
  | some ty =>
    have e : Nat.beq rk 3 = false := by rw [hrk]; cases ty <;> rfl
    rw [e, hrk]
    exact zokl_c h hr
theorem zblind {D : va_G} {cy : Nat → ClassId} {b b0 L : Nat} {xs : Nat → Int32} {tg : List Nat} {as : List Int} {c : zC} : FrameBlind (zPc D cy b b0 L xs tg as c) := fun a U g mk q => by
  obtain ⟨q1, q2, q3, q4, q5⟩ := q
  exact ⟨q1, q2, q3, zKn.same (U := U.calling g mk a) rfl q4, va_X.moved (Vm.Alike.refl _) q5⟩
theorem zws_code {q : zT} (hcode : Cond.code q.1 q.2.1 q.2.2.1 q.2.2.2.1 ∈ zWS) : ∀ w ∈ (Cond.code q.1 q.2.1 q.2.2.1 q.2.2.2.1 :: zWS), w ∈ zWS := fun w hw => by
  rcases List.mem_cons.mp hw with rfl | hw
  · exact hcode
  · exact hw
theorem zs_callV {index mi ci : Nat} {C : String} {T : u_T} {N : Nat} {ty : Nat → FieldType} {q : zT} {tgr tg' : List Nat} {kd : Int} {rk : Nat} (hd : decode cc pc = .ok (.invokevirtual index, 3)) (hC : zCI ci C T N ty) (hkd : kd = (ci : Int) + 1) (hq : tab mi = q) (htg : q.2.2.2.2.1 = 2 :: tg') (htr : tgr = (2 :: tg').reverse) (hy : q.1.cls = C)
    (h1 : Cond.methodLink own index q.1 ∈ zWS) (h2 : Cond.instanceMethod q.1 ∈ zWS) (h3 : Cond.selects C q.1 q.1 ∈ zWS) (h4 : Cond.initialized C ∈ zWS) (hcode : Cond.code q.1 q.2.1 q.2.2.1 q.2.2.2.1 ∈ zWS) (hpd : q.1.cls ≠ "java/lang/invoke/MethodHandle" ∧ q.1.cls ≠ "java/lang/invoke/VarHandle" ∧ (parseMethodDescriptor q.1.desc).map (fun d => d.parameters.length) = some tg'.length) (hnl : q.2.2.1 ≤ 45)
    (hrk : rk = match q.2.2.2.1 with | none => 3 | some ty => ztg ty) : zSound tab own cc nL rt nm pc (zi_callV kd mi tgr rk (pc + 3)) := by
  intro D cy b b0 L xs l call p e R s m args below meth cd Q n0 s0 dl v c' hCall hbb ls st c k h hk w1 w2 w3 w4
  obtain ⟨as', rest, l1, rfl, l3, h⟩ := zpop_of h
  rw [List.append_nil] at h
  obtain ⟨o1, o2⟩ := zok_zip w3
  have l4 : as'.reverse.length = (2 :: tg').length := by rw [List.length_reverse, l1, htr, List.length_reverse]
  have o3 := zok_rev l1 o1
  rw [htr, List.reverse_reverse] at o3
  have hst : (List.zip tgr as').map (zV b b0) = ((List.zip (2 :: tg') as'.reverse).map (zV b b0)).reverse := by
    rw [zip_rev l1, htr, List.reverse_reverse]
  generalize as'.reverse = as at h l4 o3 hst
  cases as with
  | nil => cases h
  | cons x as =>
  obtain ⟨e2, h⟩ := zi_of h
  obtain ⟨v1, c1, hc1, h⟩ := zb_of h
  have hk0 : c x (-1) = (ci : Int) + 1 := e2.trans hkd
  obtain ⟨b1, b2⟩ := zwf_a w1 (zCI_kd hC hk0)
  have hcon := hCall mi (x :: as) c v1 c1 hc1
  rw [hq] at hcon
  obtain ⟨⟨r1, r2, r3, r4⟩, hM⟩ := hcon hbb w1 (by rw [htg]; exact o3) (by rw [htg]; exact l4)
  have g := hk _ _ _ _ h r2 w2 (zans_ok hrk r1 o2) w4
  refine ⟨⟨g.1.1, g.1.2.1, by omega, by omega⟩, fun hF hR a1 a2 H locs lsR hP hS hL => ?_⟩
  have hF9 := hF
  obtain ⟨hx, hb, hml, hown, hts, hKn, hX, hbb2, hsz, hn0, hs0, hfr, hlo, hrc, hrs, hnm⟩ := hF9
  have m1 := g.1.2.2.1
  have m2 := g.1.2.2.2
  refine zW_size (fun hu => ?_)
  have hsize := zsize hP hS hsz hn0 a1 hu
  have hXH : va_X b L xs s H := hX.kept (hS.2.1 b (by omega) (by show ¬ b0 ≤ b; omega))
  have hargs : (List.zip (2 :: tg') (x :: as)).map (zV b b0) = .ref (zro b b0 x) :: (List.zip tg' as).map (zV b b0) := by
    rw [List.zip_cons_cons, List.map_cons, zref (by omega)]
  have hlen : ((List.zip tg' as).map (zV b b0)).length = tg'.length := by
    have : as.length = tg'.length := by simpa using l4
    simp [this]
  rw [List.map_append, hst, hargs, List.reverse_cons, List.append_assoc, List.singleton_append]
  refine zcall_W (rest := rest.map (zV b b0)) (va_runV (As := (List.zip tg' as).map (zV b b0)) (b := zro b b0 x) (C := C) (n := tg'.length) ⟨hx, hb, hml, hown, hts⟩ hM (cwV tg'.length hts (zWS_good (fun w hw => ?_)) rfl rfl rfl ⟨hy, hpd⟩ ⟨hfr, by simp only [zrm]; omega⟩) ⟨zblind, va_recv hKn.1 hP hC.1 (zCI_he hC b1 b2 hk0), fun U hU hW => ⟨by rw [htg, hargs], by rw [hU]; exact hP, by rw [hU]; exact hsize, hKn.moved hW, by rw [hU]; exact hXH.moved hW.alike⟩⟩ rfl hlen hL.1 rfl (by show 2 * 0 + _ ≤ 8; rw [zcat_eq]; omega) hd ⟨by omega, by omega⟩) hS (fun H1 locs1 hP1 hS1 => ?_)
  · rcases List.mem_append.mp (show w ∈ ([.methodLink own index q.1, .instanceMethod q.1, .selects C q.1 q.1, .initialized C] : List Cond) ++ (Cond.code q.1 q.2.1 q.2.2.1 q.2.2.2.1 :: zWS) from hw) with hw | hw
    · simp only [List.mem_cons, List.not_mem_nil, or_false] at hw
      rcases hw with rfl | rfl | rfl | rfl <;> assumption
    · exact zws_code hcode w hw
  · rw [show (c 0 0 - n0).toNat + (c1 0 0 - c 0 0).toNat = (c1 0 0 - n0).toNat by omega, show (c 0 1 - s0).toNat + (c1 0 1 - c 0 1).toNat = (c1 0 1 - s0).toNat by omega, zans hrk]
    exact g.2 hF hR (by omega) (by omega) H1 locs1 lsR hP1 hS1 hL
theorem zs_callI {index mi ci : Nat} {C : String} {T : u_T} {N : Nat} {ty : Nat → FieldType} {q : zT} {tgr tg' : List Nat} {kd : Int} {rk : Nat} (hd : decode cc pc = .ok (.invokespecial index, 3)) (hC : zCI ci C T N ty) (hkd : kd = (ci : Int) + 1) (hq : tab mi = q) (htg : q.2.2.2.2.1 = 2 :: tg') (htr : tgr = (2 :: tg').reverse) (hy : q.1.cls = C)
    (h1 : Cond.methodLink own index q.1 ∈ zWS) (h2 : Cond.instanceMethod q.1 ∈ zWS) (h3 : q.1.name = "<init>") (h4 : Cond.initialized q.1.cls ∈ zWS) (hrt : q.2.2.2.1 = none) (hcode : Cond.code q.1 q.2.1 q.2.2.1 q.2.2.2.1 ∈ zWS) (hpd : q.1.cls ≠ "java/lang/invoke/MethodHandle" ∧ q.1.cls ≠ "java/lang/invoke/VarHandle" ∧ (parseMethodDescriptor q.1.desc).map (fun d => d.parameters.length) = some tg'.length) (hnl : q.2.2.1 ≤ 45)
    (hrk : rk = match q.2.2.2.1 with | none => 3 | some ty => ztg ty) : zSound tab own cc nL rt nm pc (zi_callV kd mi tgr rk (pc + 3)) := by
  intro D cy b b0 L xs l call p e R s m args below meth cd Q n0 s0 dl v c' hCall hbb ls st c k h hk w1 w2 w3 w4
  obtain ⟨as', rest, l1, rfl, l3, h⟩ := zpop_of h
  rw [List.append_nil] at h
  obtain ⟨o1, o2⟩ := zok_zip w3
  have l4 : as'.reverse.length = (2 :: tg').length := by rw [List.length_reverse, l1, htr, List.length_reverse]
  have o3 := zok_rev l1 o1
  rw [htr, List.reverse_reverse] at o3
  have hst : (List.zip tgr as').map (zV b b0) = ((List.zip (2 :: tg') as'.reverse).map (zV b b0)).reverse := by
    rw [zip_rev l1, htr, List.reverse_reverse]
  generalize as'.reverse = as at h l4 o3 hst
  cases as with
  | nil => cases h
  | cons x as =>
  obtain ⟨e2, h⟩ := zi_of h
  obtain ⟨v1, c1, hc1, h⟩ := zb_of h
  have hk0 : c x (-1) = (ci : Int) + 1 := e2.trans hkd
  obtain ⟨b1, b2⟩ := zwf_a w1 (zCI_kd hC hk0)
  have hcon := hCall mi (x :: as) c v1 c1 hc1
  rw [hq] at hcon
  obtain ⟨⟨r1, r2, r3, r4⟩, hM⟩ := hcon hbb w1 (by rw [htg]; exact o3) (by rw [htg]; exact l4)
  have g := hk _ _ _ _ h r2 w2 (zans_ok hrk r1 o2) w4
  refine ⟨⟨g.1.1, g.1.2.1, by omega, by omega⟩, fun hF hR a1 a2 H locs lsR hP hS hL => ?_⟩
  have hF9 := hF
  obtain ⟨hx, hb, hml, hown, hts, hKn, hX, hbb2, hsz, hn0, hs0, hfr, hlo, hrc, hrs, hnm⟩ := hF9
  have m1 := g.1.2.2.1
  have m2 := g.1.2.2.2
  refine zW_size (fun hu => ?_)
  have hsize := zsize hP hS hsz hn0 a1 hu
  have hXH : va_X b L xs s H := hX.kept (hS.2.1 b (by omega) (by show ¬ b0 ≤ b; omega))
  have hargs : (List.zip (2 :: tg') (x :: as)).map (zV b b0) = .ref (zro b b0 x) :: (List.zip tg' as).map (zV b b0) := by
    rw [List.zip_cons_cons, List.map_cons, zref (by omega)]
  have hlen : ((List.zip tg' as).map (zV b b0)).length = tg'.length := by
    have : as.length = tg'.length := by simpa using l4
    simp [this]
  rw [List.map_append, hst, hargs, List.reverse_cons, List.append_assoc, List.singleton_append]
  have hM2 := hM
  rw [hrt] at hM2
  refine zcall_W (rest := rest.map (zV b b0)) (va_runI (As := (List.zip tg' as).map (zV b b0)) (b := zro b b0 x) (n := tg'.length) ⟨hx, hb, hml, hown, hts⟩ hM2 (cwI tg'.length hts (zWS_good (fun w hw => by have h9 := zws_code hcode; rw [hrt] at h9; exact h9 w hw)) rfl rfl rfl (hts _ h4) (hts _ h1) (hts _ h2) h3 hpd ⟨hfr, by simp only [zrm]; omega⟩) ⟨zblind, fun U hU hW => ⟨by rw [htg, hargs], by rw [hU]; exact hP, by rw [hU]; exact hsize, hKn.moved hW, by rw [hU]; exact hXH.moved hW.alike⟩⟩ rfl hlen hL.1 rfl (by show 2 * 0 + _ ≤ 8; rw [zcat_eq]; omega) hd ⟨by omega, by omega⟩) hS (fun H1 locs1 hP1 hS1 => ?_)
  rw [show (c 0 0 - n0).toNat + (c1 0 0 - c 0 0).toNat = (c1 0 0 - n0).toNat by omega, show (c 0 1 - s0).toNat + (c1 0 1 - c 0 1).toNat = (c1 0 1 - s0).toNat by omega, ← hrt, zans hrk]
  exact g.2 hF hR (by omega) (by omega) H1 locs1 lsR hP1 hS1 hL
theorem zs_callIN {index mi ci : Nat} {C : String} {T : u_T} {N : Nat} {ty : Nat → FieldType} {q : zT} {tgr tg' : List Nat} {kd : Int} {rk : Nat} (hd : decode cc pc = .ok (.invokespecial index, 3)) (hC : zCI ci C T N ty) (hkd : kd = (ci : Int) + 1) (hq : tab mi = q) (htg : q.2.2.2.2.1 = 2 :: tg') (htr : tgr = (2 :: tg').reverse) (hy : q.1.cls = C)
    {host : String} (h1 : (own, index, q.1, host) ∈ zNW) (h2 : Cond.instanceMethod q.1 ∈ zWS) (h3 : q.1.name = "<init>") (h4 : Cond.initialized q.1.cls ∈ zWS) (hrt : q.2.2.2.1 = none) (hcode : Cond.code q.1 q.2.1 q.2.2.1 q.2.2.2.1 ∈ zWS) (hpd : q.1.cls ≠ "java/lang/invoke/MethodHandle" ∧ q.1.cls ≠ "java/lang/invoke/VarHandle" ∧ (parseMethodDescriptor q.1.desc).map (fun d => d.parameters.length) = some tg'.length) (hnl : q.2.2.1 ≤ 45)
    (hrk : rk = match q.2.2.2.1 with | none => 3 | some ty => ztg ty) : zSound tab own cc nL rt nm pc (zi_callV kd mi tgr rk (pc + 3)) := by
  intro D cy b b0 L xs l call p e R s m args below meth cd Q n0 s0 dl v c' hCall hbb ls st c k h hk w1 w2 w3 w4
  obtain ⟨as', rest, l1, rfl, l3, h⟩ := zpop_of h
  rw [List.append_nil] at h
  obtain ⟨o1, o2⟩ := zok_zip w3
  have l4 : as'.reverse.length = (2 :: tg').length := by rw [List.length_reverse, l1, htr, List.length_reverse]
  have o3 := zok_rev l1 o1
  rw [htr, List.reverse_reverse] at o3
  have hst : (List.zip tgr as').map (zV b b0) = ((List.zip (2 :: tg') as'.reverse).map (zV b b0)).reverse := by
    rw [zip_rev l1, htr, List.reverse_reverse]
  generalize as'.reverse = as at h l4 o3 hst
  cases as with
  | nil => cases h
  | cons x as =>
  obtain ⟨e2, h⟩ := zi_of h
  obtain ⟨v1, c1, hc1, h⟩ := zb_of h
  have hk0 : c x (-1) = (ci : Int) + 1 := e2.trans hkd
  obtain ⟨b1, b2⟩ := zwf_a w1 (zCI_kd hC hk0)
  have hcon := hCall mi (x :: as) c v1 c1 hc1
  rw [hq] at hcon
  obtain ⟨⟨r1, r2, r3, r4⟩, hM⟩ := hcon hbb w1 (by rw [htg]; exact o3) (by rw [htg]; exact l4)
  have g := hk _ _ _ _ h r2 w2 (zans_ok hrk r1 o2) w4
  refine ⟨⟨g.1.1, g.1.2.1, by omega, by omega⟩, fun hF hR a1 a2 H locs lsR hP hS hL => ?_⟩
  have hF9 := hF
  obtain ⟨hx, hb, hml, hown, hts, hKn, hX, hbb2, hsz, hn0, hs0, hfr, hlo, hrc, hrs, hnm⟩ := hF9
  have m1 := g.1.2.2.1
  have m2 := g.1.2.2.2
  refine zW_size (fun hu => ?_)
  have hsize := zsize hP hS hsz hn0 a1 hu
  have hXH : va_X b L xs s H := hX.kept (hS.2.1 b (by omega) (by show ¬ b0 ≤ b; omega))
  have hargs : (List.zip (2 :: tg') (x :: as)).map (zV b b0) = .ref (zro b b0 x) :: (List.zip tg' as).map (zV b b0) := by
    rw [List.zip_cons_cons, List.map_cons, zref (by omega)]
  have hlen : ((List.zip tg' as).map (zV b b0)).length = tg'.length := by
    have : as.length = tg'.length := by simpa using l4
    simp [this]
  rw [List.map_append, hst, hargs, List.reverse_cons, List.append_assoc, List.singleton_append]
  have hM2 := hM
  rw [hrt] at hM2
  refine zcall_W (rest := rest.map (zV b b0)) (va_runIN (As := (List.zip tg' as).map (zV b b0)) (b := zro b b0 x) (n := tg'.length) ⟨hx, hb, hml, hown, hts⟩ hM2 ⟨va_cnB tg'.length hts (zWS_good (fun w hw => by have h9 := zws_code hcode; rw [hrt] at h9; exact h9 w hw)) rfl rfl rfl (hKn.2.1 _ h1) (hts _ h4) hpd ⟨hfr, by simp only [zrm]; omega⟩, h3, hts _ h2⟩ ⟨zblind, fun U hU hW => ⟨by rw [htg, hargs], by rw [hU]; exact hP, by rw [hU]; exact hsize, hKn.moved hW, by rw [hU]; exact hXH.moved hW.alike⟩⟩ rfl hlen hL.1 rfl (by show 2 * 0 + _ ≤ 8; rw [zcat_eq]; omega) hd ⟨by omega, by omega⟩) hS (fun H1 locs1 hP1 hS1 => ?_)
  rw [show (c 0 0 - n0).toNat + (c1 0 0 - c 0 0).toNat = (c1 0 0 - n0).toNat by omega, show (c 0 1 - s0).toNat + (c1 0 1 - c 0 1).toNat = (c1 0 1 - s0).toNat by omega, ← hrt, zans hrk]
  exact g.2 hF hR (by omega) (by omega) H1 locs1 lsR hP1 hS1 hL
theorem zs_callS {index mi : Nat} {q : zT} {tgr : List Nat} {rk : Nat} (hd : decode cc pc = .ok (.invokestatic index, 3)) (hq : tab mi = q) (htr : tgr = q.2.2.2.2.1.reverse)
    (h1 : Cond.methodLink own index q.1 ∈ zWS) (h2 : Cond.static q.1 ∈ zWS) (h4 : Cond.initialized q.1.cls ∈ zWS) (hcode : Cond.code q.1 q.2.1 q.2.2.1 q.2.2.2.1 ∈ zWS) (hpd : q.1.cls ≠ "java/lang/invoke/MethodHandle" ∧ q.1.cls ≠ "java/lang/invoke/VarHandle" ∧ (parseMethodDescriptor q.1.desc).map (fun d => d.parameters.length) = some q.2.2.2.2.1.length) (hnl : q.2.2.1 ≤ 45)
    (hrk : rk = match q.2.2.2.1 with | none => 3 | some ty => ztg ty) : zSound tab own cc nL rt nm pc (zi_callS mi tgr rk (pc + 3)) := by
  intro D cy b b0 L xs l call p e R s m args below meth cd Q n0 s0 dl v c' hCall hbb ls st c k h hk w1 w2 w3 w4
  obtain ⟨as', rest, l1, rfl, l3, h⟩ := zpop_of h
  rw [List.append_nil] at h
  obtain ⟨o1, o2⟩ := zok_zip w3
  have l4 : as'.reverse.length = q.2.2.2.2.1.length := by rw [List.length_reverse, l1, htr, List.length_reverse]
  have o3 := zok_rev l1 o1
  rw [htr, List.reverse_reverse] at o3
  have hst : (List.zip tgr as').map (zV b b0) = ((List.zip q.2.2.2.2.1 as'.reverse).map (zV b b0)).reverse := by
    rw [zip_rev l1, htr, List.reverse_reverse]
  generalize as'.reverse = as at h l4 o3 hst
  obtain ⟨v1, c1, hc1, h⟩ := zb_of h
  have hcon := hCall mi as c v1 c1 hc1
  rw [hq] at hcon
  obtain ⟨⟨r1, r2, r3, r4⟩, hM⟩ := hcon hbb w1 o3 l4
  have g := hk _ _ _ _ h r2 w2 (zans_ok hrk r1 o2) w4
  refine ⟨⟨g.1.1, g.1.2.1, by omega, by omega⟩, fun hF hR a1 a2 H locs lsR hP hS hL => ?_⟩
  have hF9 := hF
  obtain ⟨hx, hb, hml, hown, hts, hKn, hX, hbb2, hsz, hn0, hs0, hfr, hlo, hrc, hrs, hnm⟩ := hF9
  have m1 := g.1.2.2.1
  have m2 := g.1.2.2.2
  refine zW_size (fun hu => ?_)
  have hsize := zsize hP hS hsz hn0 a1 hu
  have hXH : va_X b L xs s H := hX.kept (hS.2.1 b (by omega) (by show ¬ b0 ≤ b; omega))
  have hlen : ((List.zip q.2.2.2.2.1 as).map (zV b b0)).length = q.2.2.2.2.1.length := by simp [l4]
  rw [List.map_append, hst]
  refine zcall_W (rest := rest.map (zV b b0)) (va_runS (As := (List.zip q.2.2.2.2.1 as).map (zV b b0)) (n := q.2.2.2.2.1.length) ⟨hx, hb, hml, hown, hts⟩ hM ⟨callB_of q.2.2.2.2.1.length hts (zWS_good (zws_code hcode)) rfl rfl rfl (hts _ h4) (hts _ h1) hpd ⟨hfr, by simp only [zrm]; omega⟩, hts _ h2⟩ ⟨zblind, fun U hU hW => ⟨rfl, by rw [hU]; exact hP, by rw [hU]; exact hsize, hKn.moved hW, by rw [hU]; exact hXH.moved hW.alike⟩⟩ rfl hlen hL.1 rfl (by show 2 * 0 + _ ≤ 8; rw [zcat_eq]; omega) hd ⟨by omega, by omega⟩) hS (fun H1 locs1 hP1 hS1 => ?_)
  rw [show (c 0 0 - n0).toNat + (c1 0 0 - c 0 0).toNat = (c1 0 0 - n0).toNat by omega, show (c 0 1 - s0).toNat + (c1 0 1 - c 0 1).toNat = (c1 0 1 - s0).toNat by omega, zans hrk]
  exact g.2 hF hR (by omega) (by omega) H1 locs1 lsR hP1 hS1 hL
end
