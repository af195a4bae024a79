/-! Questions that go through a day, or many, and leave the numbers told as they were: the state behind is one of many -/
def zVx (v : Value) (F : zS → Prop) : zQ := fun q s => q = some v ∧ F s
def zUx (F : zS → Prop) : zQ := fun q s => q = none ∧ F s
def zG (k : Nat → Nat × Nat) (r : Nat → Int → Option Nat) (l : Nat → Nat → Int64) (n : Nat) (F : (Nat → Int → Int) → Prop) : zS → Prop := fun s => ∃ g, s = zJ (k, g, r, l, n) ∧ F g
section ZX
variable {E : zE} {d mc ms : Nat} {M : zM} {P : Nat → zOp} {Q : zQ} {pc nx tg bc bs : Nat} {ls : List (Option Value)} {st : List Value} {σ : zS}
theorem s_callVx (ok : zOK M P) {e9 na x c L : Nat} {tgs : List (Nat × zM)} {M' : zM} {v : Value} {F : zS → Prop} {as rest : List Value} (hd : d = e9 + 1) (hP : P pc = oCallV na tgs nx) (hp : zpop na [] st = some (as, .ref x :: rest)) (hc : Nat.ble (zcat rest) 8 = true) (hq : zk σ x = (c, L)) (hf : zfind tgs c = some M') (hM : zCT E e9 M' (.ref x :: as) σ 0 0 (zVx v F)) (hk : ∀ σ', F σ' → zGo E d M mc ms Q nx (ls, v :: rest, σ', bc, bs)) : zGo E d M mc ms Q pc (ls, st, σ, bc, bs) := by
  subst hd
  refine zstep ok hP ?_
  dsimp only [oCallV]
  rw [hp]
  dsimp only
  rw [hc]
  exact ⟨_, _, hq, hf, 0, 0, _, Nat.zero_le _, Nat.zero_le _, hM, fun q s ⟨e1, e2⟩ => by subst e1; exact hk s e2⟩
theorem s_callVvx (ok : zOK M P) {e9 na x c L : Nat} {tgs : List (Nat × zM)} {M' : zM} {F : zS → Prop} {as rest : List Value} (hd : d = e9 + 1) (hP : P pc = oCallV na tgs nx) (hp : zpop na [] st = some (as, .ref x :: rest)) (hc : Nat.ble (zcat rest) 8 = true) (hq : zk σ x = (c, L)) (hf : zfind tgs c = some M') (hM : zCT E e9 M' (.ref x :: as) σ 0 0 (zUx F)) (hk : ∀ σ', F σ' → zGo E d M mc ms Q nx (ls, rest, σ', bc, bs)) : zGo E d M mc ms Q pc (ls, st, σ, bc, bs) := by
  subst hd
  refine zstep ok hP ?_
  dsimp only [oCallV]
  rw [hp]
  dsimp only
  rw [hc]
  exact ⟨_, _, hq, hf, 0, 0, _, Nat.zero_le _, Nat.zero_le _, hM, fun q s ⟨e1, e2⟩ => by subst e1; exact hk s e2⟩
end ZX
/-- only the cells of work differ -/
def dE (h g : Nat → Int → Int) : Prop := (∀ n, n < 63 ∨ 75 < n → ¬ n = 59 → g n = h n) ∧ (∀ j, ¬ j = 19 → g 59 j = h 59 j) ∧ dP g
/-- the same, and the cells of work of the questions that keep more of them -/
def dL (h g : Nat → Int → Int) : Prop := (∀ n, n < 63 ∨ 79 < n → ¬ n = 59 → g n = h n) ∧ (∀ j, ¬ (j = 19 ∨ j = 24 ∨ j = 25 ∨ j = 28) → g 59 j = h 59 j) ∧ dP g
theorem dE.l {h g : Nat → Int → Int} (a : dE h g) : dL h g := ⟨fun n h1 h2 => a.1 n (by omega) h2, fun j hj => a.2.1 j (by omega), a.2.2⟩
theorem dL.tr {h g f : Nat → Int → Int} (a : dL h g) (b : dL g f) : dL h f := ⟨fun n h1 h2 => (b.1 n h1 h2).trans (a.1 n h1 h2), fun j hj => (b.2.1 j hj).trans (a.2.1 j hj), b.2.2⟩
theorem dL.e60 {h g : Nat → Int → Int} (a : dL h g) : g 60 = h 60 := a.1 60 (by omega) (by omega)
theorem dL.e17 {h g : Nat → Int → Int} (a : dL h g) : g 59 17 = h 59 17 := a.2.1 17 (by omega)
theorem dL.e18 {h g : Nat → Int → Int} (a : dL h g) : g 59 18 = h 59 18 := a.2.1 18 (by omega)
theorem dE.rf {h : Nat → Int → Int} (hd : dP h) : dE h h := ⟨fun _ _ _ => rfl, fun _ _ => rfl, hd⟩
theorem dE.tr {h g f : Nat → Int → Int} (a : dE h g) (b : dE g f) : dE h f := ⟨fun n h1 h2 => (b.1 n h1 h2).trans (a.1 n h1 h2), fun j hj => (b.2.1 j hj).trans (a.2.1 j hj), b.2.2⟩
theorem dE.e60 {h g : Nat → Int → Int} (a : dE h g) : g 60 = h 60 := a.1 60 (by omega) (by omega)
theorem dE.e17 {h g : Nat → Int → Int} (a : dE h g) : g 59 17 = h 59 17 := a.2.1 17 (by omega)
theorem dE.e18 {h g : Nat → Int → Int} (a : dE h g) : g 59 18 = h 59 18 := a.2.1 18 (by omega)
/-- the cells of work tell of the day of the plan p -/
def dD (g : Nat → Int → Int) (p : Int → Int) (w dd : Int) : Prop := (∀ n : Nat, 69 ≤ n → n ≤ 74 → ∀ t : Int, 0 ≤ t → t < p 6 → g n t = dN p w dd n t) ∧ (∀ n : Nat, 63 ≤ n → n ≤ 66 → ∀ x : Int, 0 ≤ x → x < 3 * p 0 → g n x = dN p w dd n x) ∧ (∀ n : Nat, n = 67 ∨ n = 68 → ∀ x a : Int, 0 ≤ x → x < 3 * p 0 → x % 3 < dd → 0 ≤ a → a < 5 → g n (5 * x + a) = dN p w dd n (5 * x + a))
/-- a number put in a place -/
def zp (p : Int → Int) (i v : Int) : Int → Int := fun j => if j = i then v else p j
theorem zp_at {p : Int → Int} {i v : Int} : zp p i v i = v := if_pos rfl
theorem zp_ne {p : Int → Int} {i v j : Int} (hj : ¬ j = i) : zp p i v j = p j := if_neg hj
theorem zp_bk {p : Int → Int} {i v : Int} : zp (zp p i v) i (p i) = p := by
  funext j
  unfold zp
  by_cases e : j = i
  · rw [if_pos e, e]
  · rw [if_neg e, if_neg e]
theorem dE_goes {h : Nat → Int → Int} (hd : dP h) : dE h (sGoes h) ∧ dD (sGoes h) (h 60) (h 59 17) (h 59 18) :=
  ⟨⟨fun n h1 h2 => (sGoes_ok hd).2.1 n (by omega) h2, fun j hj => (sGoes_ok hd).2.2 j (by omega), (sGoes_ok hd).1.1⟩, day_eq hd⟩
theorem dE_with {h : Nat → Int → Int} {i v : Int} (hd : dP h) (hv : pOK (zp (h 60) i v)) : dP (zv h 60 i v) ∧ dE h (zv (sGoes (zv h 60 i v)) 60 i (h 60 i)) ∧ dD (zv (sGoes (zv h 60 i v)) 60 i (h 60 i)) (zp (h 60) i v) (h 59 17) (h 59 18) := by
  have d2 : dP (zv h 60 i v) := ⟨hv, hd.2.1, hd.2.2.1, hd.2.2.2.1, hd.2.2.2.2⟩
  obtain ⟨⟨a1, a2, a3⟩, b1, b2, b3⟩ := dE_goes d2
  have e60 : zv (sGoes (zv h 60 i v)) 60 i (h 60 i) 60 = h 60 := by
    have z : zv (sGoes (zv h 60 i v)) 60 i (h 60 i) 60 = zp (sGoes (zv h 60 i v) 60) i (h 60 i) := rfl
    rw [z, a1 60 (by omega) (by omega)]
    exact zp_bk
  refine ⟨d2, ⟨fun m h1 h2 => ?_, fun j hj => ?_, ⟨?_, a3.2.1, a3.2.2.1, a3.2.2.2.1, a3.2.2.2.2⟩⟩, ?_, ?_, ?_⟩
  · by_cases c : m = 60
    · rw [c]
      exact e60
    · rw [zv_other c, a1 m h1 h2, zv_other c]
  · rw [zv_other (by omega), a2 j hj, zv_other (by omega)]
  · rw [e60]
    exact hd.1
  · intro m m0 m1 t t0 t1
    rw [zv_other (by omega)]
    exact b1 m m0 m1 t t0 t1
  · intro m m0 m1 t t0 t1
    rw [zv_other (by omega)]
    exact b2 m m0 m1 t t0 t1
  · intro m m0 x a x0 x1 x2 y0 y1
    rw [zv_other (by omega)]
    exact b3 m m0 x a x0 x1 x2 y0 y1
theorem dN_ok {p : Int → Int} {w dd : Int} (hp : pOK p) (hw : zb w) : dP (dN p w dd) := (sGoes_ok (dC_ok hp hw)).1.1
/-- the minute at which t arrives; how many arrive; all minutes -/
def dA (p : Int → Int) (w dd t : Int) : Int := zAr (dN p w dd) t
def dMn (p : Int → Int) (w dd : Int) : Int := zsum (zOn (dN p w dd)) (p 6).toNat
def dMi (p : Int → Int) (w dd : Int) : Int := zsum (zAr (dN p w dd)) (p 6).toNat
theorem dA_zb {p : Int → Int} {w dd t : Int} (hp : pOK p) (hw : zb w) : zb (dA p w dd t) := by
  have := (dN_ok (dd := dd) hp hw).2.2.1 t
  unfold dA zAr
  split
  · exact ⟨by omega, by omega⟩
  · exact this
theorem zsum_cg {f g : Int → Int} : ∀ c : Nat, (∀ j : Int, 0 ≤ j → j < c → f j = g j) → zsum f c = zsum g c
  | 0, _ => rfl
  | c + 1, hj => by
    have i := zsum_cg c (fun j j0 j1 => hj j j0 (by omega))
    unfold zsum
    rw [i, hj c (by omega) (by omega)]
theorem dD.A {g : Nat → Int → Int} {p : Int → Int} {w dd t : Int} (q : dD g p w dd) (t0 : 0 ≤ t) (t1 : t < p 6) : zAr g t = dA p w dd t := by
  unfold dA zAr
  rw [q.1 71 (by omega) (by omega) t t0 t1]
theorem dD.Mn {g : Nat → Int → Int} {p : Int → Int} {w dd : Int} (q : dD g p w dd) : zsum (zOn g) (p 6).toNat = dMn p w dd := zsum_cg _ fun j j0 j1 => by
  unfold zOn
  rw [q.1 71 (by omega) (by omega) j j0 (by omega)]
theorem dD.Mi {g : Nat → Int → Int} {p : Int → Int} {w dd : Int} (q : dD g p w dd) : zsum (zAr g) (p 6).toNat = dMi p w dd := zsum_cg _ fun j j0 j1 => by
  unfold zAr
  rw [q.1 71 (by omega) (by omega) j j0 (by omega)]
theorem pOK_base {p : Int → Int} (hp : pOK p) {t v : Int} (t0 : 0 ≤ t) (v0 : 0 ≤ v) (v1 : v ≤ 360) : pOK (zp p (19 + 5 * t + 4) v) := by
  have e : ∀ i, ¬ i = 19 + 5 * t + 4 → zp p (19 + 5 * t + 4) v i = p i := fun i hi => zp_ne hi
  obtain ⟨a0, a1, a2, a3, a4, a5, a6, a7, a8, a9, b0, b1, b2, b3, c1, c2, c3⟩ := hp
  refine ⟨?_, ?_, ?_, ?_, ?_, ?_, ?_, ?_, ?_, ?_, ?_, ?_, ?_, ?_, fun i i0 i1 => ?_, fun i i0 i1 => ?_, fun s s0 s1 => ?_⟩
  iterate 14 (rw [e _ (by omega)]; assumption)
  · rw [e _ (by omega)]
    exact c1 i i0 i1
  · rw [e _ (by omega), e _ (by omega)]
    exact c2 i i0 i1
  · obtain ⟨f1, f2, f3, f4, f5⟩ := c3 s s0 s1
    unfold pK pF pFr pTo pBa at *
    rw [e (19 + 5 * s) (by omega), e (19 + 5 * s + 1) (by omega), e (19 + 5 * s + 2) (by omega), e (19 + 5 * s + 3) (by omega)]
    refine ⟨f1, f2, f3, f4, ?_⟩
    by_cases z : s = t
    · rw [z, zp_at]
      exact ⟨v0, v1⟩
    · rw [e _ (by omega)]
      exact f5
theorem ct_goesWith {E : zE} {d : Nat} {k : Nat → Nat × Nat} {h : Nat → Int → Int} {r : Nat → Int → Option Nat} {l : Nat → Nat → Int64} {n : Nat} {p : Int → Int} {w dd : Int} (ep : h 60 = p) (ew : h 59 17 = w) (ed : h 59 18 = dd) (hd : dP h) (h2 : zb dd) {i v : Int} (i0 : 0 ≤ i) (i1 : i < 59) (hv : pOK (zp p i v)) : zCT E (d + 7) M_X12_goesWith [.ref 59, .int (iI (i)), .int (iI (v))] (zJ (k, h, r, l, n)) 0 0 (zUx (zG k r l n (fun g => dE h g ∧ dD g (zp p i v) w dd))) := by
  have ok := ok_X12_goesWith
  refine zCT_of pn_X12_goesWith (Nat.le_of_ble_eq_true rfl) ?_
  show zGo _ _ _ _ _ _ 0 ([some (.ref 59), some (.int (iI (i))), some (.int (iI (v))), none], [], _, _, _)
  subst ep
  subst ew
  subst ed
  have dw := dE_with hd hv
  refine s_ldA0 ok rfl ?_
  refine s_getF ok rfl rfl rfl rfl ?_
  refine s_ldI1 ok rfl ?_
  refine s_iald ok rfl (by exact rfl) (by exact rfl) (by omega) (by omega) ?_
  refine s_stI3 ok rfl rfl ?_
  refine s_ldA0 ok rfl ?_
  refine s_getF ok rfl rfl rfl rfl ?_
  refine s_ldI1 ok rfl ?_
  refine s_ldI2 ok rfl ?_
  refine s_iast ok rfl (by exact rfl) (by exact rfl) (by omega) (by omega) (fun q => by cases q) ?_
  refine s_ldA0 ok rfl ?_
  refine s_callVv ok rfl rfl rfl rfl rfl rfl (ct_goes (by exact dw.1) (by show zb (h 59 18); exact h2)) ?_
  refine s_ldA0 ok rfl ?_
  refine s_getF ok rfl rfl rfl rfl ?_
  refine s_ldI1 ok rfl ?_
  refine s_ldI3 ok rfl ?_
  refine s_iast ok rfl (by exact rfl) (by exact rfl) (by omega) (by omega) (fun q => by cases q) ?_
  refine s_retV ok rfl ⟨rfl, _, rfl, dw.2⟩
theorem ct_arrivesWith {E : zE} {d : Nat} {k : Nat → Nat × Nat} {h : Nat → Int → Int} {r : Nat → Int → Option Nat} {l : Nat → Nat → Int64} {n : Nat} {p : Int → Int} {w dd : Int} (ep : h 60 = p) (ew : h 59 17 = w) (ed : h 59 18 = dd) (hd : dP h) (h2 : zb dd) {t v : Int} (t0 : 0 ≤ t) (t2 : t < p 6) (hv : pOK (zp p (19 + 5 * t + 4) v)) : zCT E (d + 7) M_X12_arrivesWith [.ref 59, .int (iI (t)), .int (iI (v))] (zJ (k, h, r, l, n)) 0 0 (zVx (.int (iI (dA (zp p (19 + 5 * t + 4) v) w dd t))) (zG k r l n (fun g => dE h g ∧ dD g (zp p (19 + 5 * t + 4) v) w dd))) := by
  have ok := ok_X12_arrivesWith
  refine zCT_of pn_X12_arrivesWith (Nat.le_of_ble_eq_true rfl) ?_
  show zGo _ _ _ _ _ _ 0 ([some (.ref 59), some (.int (iI (t))), some (.int (iI (v))), none], [], _, _, _)
  subst ep
  subst ew
  subst ed
  have t1 : t < 8 := by have := hd.1.2.2.2.2.2.2.2.2.2.2.2.2.2.1; omega
  have dw := dE_with hd hv
  refine s_ldA0 ok rfl ?_
  refine s_ldI1 ok rfl ?_
  refine s_callV ok rfl rfl rfl rfl rfl rfl (ct_baseOf t0 t1) ?_
  refine s_stI3 ok rfl rfl ?_
  refine s_ldA0 ok rfl ?_
  refine s_getF ok rfl rfl rfl rfl ?_
  refine s_ci ok rfl ?_
  refine s_ci ok rfl ?_
  refine s_ldI1 ok rfl ?_
  refine s_mul ok rfl ?_
  refine s_add ok rfl ?_
  refine s_ci ok rfl ?_
  refine s_add ok rfl ?_
  refine s_ldI2 ok rfl ?_
  refine s_iast ok rfl (by exact rfl) (by exact rfl) (by omega) (by omega) (fun q => by cases q) ?_
  refine s_ldA0 ok rfl ?_
  refine s_callVv ok rfl rfl rfl rfl rfl rfl (ct_goes (by exact dw.1) (by show zb (h 59 18); exact h2)) ?_
  refine s_ldA0 ok rfl ?_
  refine s_getF ok rfl rfl rfl rfl ?_
  refine s_ci ok rfl ?_
  refine s_ci ok rfl ?_
  refine s_ldI1 ok rfl ?_
  refine s_mul ok rfl ?_
  refine s_add ok rfl ?_
  refine s_ci ok rfl ?_
  refine s_add ok rfl ?_
  refine s_ldI3 ok rfl ?_
  refine s_iast ok rfl (by exact rfl) (by exact rfl) (by omega) (by omega) (fun q => by cases q) ?_
  refine s_ldA0 ok rfl ?_
  refine s_ldI1 ok rfl ?_
  refine s_callV ok rfl rfl rfl rfl rfl rfl (ct_arrives dw.2.1.2.2.2.2.1 t0 t1) ?_
  refine s_retI ok rfl ⟨congrArg (fun z => some (Value.int (iI z))) (dw.2.2.A t0 (by rw [zp_ne (by omega)]; exact t2)), _, rfl, dw.2⟩
theorem ct_manyNow {E : zE} {d : Nat} {k : Nat → Nat × Nat} {h : Nat → Int → Int} {r : Nat → Int → Option Nat} {l : Nat → Nat → Int64} {n : Nat} {p : Int → Int} {w dd : Int} (ep : h 60 = p) (ew : h 59 17 = w) (ed : h 59 18 = dd) (hd : dP h) (h2 : zb dd) : zCT E (d + 7) M_X12_manyNow [.ref 59] (zJ (k, h, r, l, n)) 0 0 (zVx (.int (iI (dMn p w dd))) (zG k r l n (fun g => dE h g ∧ dD g p w dd))) := by
  have ok := ok_X12_manyNow
  refine zCT_of pn_X12_manyNow (Nat.le_of_ble_eq_true rfl) ?_
  show zGo _ _ _ _ _ _ 0 ([some (.ref 59)], [], _, _, _)
  subst ep
  subst ew
  subst ed
  have dw := dE_goes hd
  refine s_ldA0 ok rfl ?_
  refine s_callVv ok rfl rfl rfl rfl rfl rfl (ct_goes hd (by exact h2)) ?_
  refine s_ldA0 ok rfl ?_
  refine s_callV ok rfl rfl rfl rfl rfl rfl (ct_arriveMany (np := (h 60 6).toNat) dw.1.2.2.2.2.1 (by rw [dw.1.e60]; have := hd.1.2.2.2.2.2.2.2.2.2.2.2.2.1; omega) (by have := hd.1.2.2.2.2.2.2.2.2.2.2.2.2.2.1; omega)) ?_
  refine s_retI ok rfl ⟨congrArg (fun z => some (Value.int (iI z))) dw.2.Mn, _, rfl, dw⟩
theorem ct_worth {E : zE} {d : Nat} {k : Nat → Nat × Nat} {h : Nat → Int → Int} {r : Nat → Int → Option Nat} {l : Nat → Nat → Int64} {n : Nat} {p : Int → Int} {w dd : Int} (ep : h 60 = p) (ew : h 59 17 = w) (ed : h 59 18 = dd) (hd : dP h) (h2 : zb dd) : zCT E (d + 7) M_X12_worth [.ref 59] (zJ (k, h, r, l, n)) 0 0 (zVx (.int (iI (dMi p w dd))) (zG k r l n (fun g => dE h g ∧ dD g p w dd))) := by
  have ok := ok_X12_worth
  refine zCT_of pn_X12_worth (Nat.le_of_ble_eq_true rfl) ?_
  show zGo _ _ _ _ _ _ 0 ([some (.ref 59)], [], _, _, _)
  subst ep
  subst ew
  subst ed
  have dw := dE_goes hd
  refine s_ldA0 ok rfl ?_
  refine s_callVv ok rfl rfl rfl rfl rfl rfl (ct_goes hd (by exact h2)) ?_
  refine s_ldA0 ok rfl ?_
  refine s_callV ok rfl rfl rfl rfl rfl rfl (ct_allMinutes (np := (h 60 6).toNat) dw.1.2.2.2.2.1 (by rw [dw.1.e60]; have := hd.1.2.2.2.2.2.2.2.2.2.2.2.2.1; omega) (by have := hd.1.2.2.2.2.2.2.2.2.2.2.2.2.2.1; omega)) ?_
  refine s_retI ok rfl ⟨congrArg (fun z => some (Value.int (iI z))) dw.2.Mi, _, rfl, dw⟩
