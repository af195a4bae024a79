/-! the trip: the day -/
theorem sQ_cg {g h : Nat → Int → Int} {a : Int} (e : h 49 = g 49) : ∀ L : List Int, sQ g a L → sQ h a L
  | [], _ => trivial
  | q :: L, s => by
    refine ⟨fun r hr => ?_, sQ_cg e L s.2⟩
    have := s.1 r hr
    unfold qA at this ⊢
    rw [e]
    exact this
theorem tT_fr {p : Int → Int} {w dd : Int} {g h H : Nat → Int → Int} (t : tT p w dd h H) (f : ∀ q : Nat, 43 < q → q < 54 → g q = h q) : tT p w dd g H := by
  unfold tT tP tB at t ⊢
  rw [f 44 (by omega) (by omega), f 45 (by omega) (by omega), f 46 (by omega) (by omega), f 47 (by omega) (by omega), f 48 (by omega) (by omega), f 49 (by omega) (by omega), f 50 (by omega) (by omega), f 51 (by omega) (by omega), f 52 (by omega) (by omega), f 53 (by omega) (by omega)]
  exact t
theorem lp_go4 {E : zE} {d : Nat} {k : Nat → Nat × Nat} {h : Nat → Int → Int} {r : Nat → Int → Option Nat} {l : Nat → Nat → Int64} {n : Nat} {p : Int → Int} {w dd : Int} (hp : pOK p) (hdd : dd = 1 ∨ dd = 3) (hw : w = -4 ∨ (0 ≤ w ∧ w < p 6)) (hf : ∀ q : Int, 0 ≤ q → q < p 6 → ¬ pFr p q = 4) (hR : cR 4 5 6 7 8 9 10 11 12 13 k h r n p w) : ∀ c : Nat, ∀ (m : Nat) (g : Nat → Int → Int) (v : Option Value), (∀ q : Nat, q < 37 ∨ 54 < q → g q = h q) ∧ (∀ j : Int, ¬ j = 6 → ¬ j = 18 → g 37 j = h 37 j) ∧ tC p w g ∧ g 37 18 = rN p dd ∧ qM p dd g ∧ (∀ x y : Int, 0 ≤ x → x < y → y < rN p dd → ¬ g 54 x = g 54 y) ∧ tT p w dd g (sFF m (sBeg (dC p w dd))) ∧ sA p dd (m : Int) (sFF m (sBeg (dC p w dd))) → 5 < m + c → m ≤ 5 → zGo E (d + 8) M_X9_go 0 0 (zUx (zG k r l n (fun g => (∀ q : Nat, q < 37 ∨ 54 < q → g q = h q) ∧ (∀ j : Int, ¬ j = 6 → ¬ j = 18 → g 37 j = h 37 j) ∧ tC p w g ∧ tT p w dd g (dFF p w dd) ∧ sA p dd 5 (dFF p w dd)))) 13 ([some (.ref 37), some (.ref 4), some (.int (iI (dd - 1))), some (.int (iI ((m : Int)))), v], [], zJ (k, g, r, l, n), 0, 0) := by
  have ok := ok_X9_go
  intro c
  induction c with
  | zero =>
    intros
    omega
  | succ c ih =>
    intro m g v ⟨i1, i2, i3, i4, i5, i6, i7, i8⟩ g1 g2
    have p0 := hp.1
    have p4 := hp.2.1
    have p68 := hp.2.2.2.2.2.2.2.2.2.2.2.2.2.1
    have hd := dC_ok (p := p) (w := w) (dd := dd) hp ⟨by omega, by omega⟩
    have hb := dZ_beg hd
    obtain ⟨z1, z60, z59⟩ := sFF_ok m (by omega) hb.1
    rw [hb.2 60 (by omega), dC_60] at z60
    have z17 := z59 17 (by omega)
    rw [hb.2 59 (by omega), dC_17] at z17
    have rb : 0 ≤ rN p dd ∧ rN p dd ≤ 12 := by unfold rN; split <;> omega
    refine s_ldI3 ok rfl ?_
    refine s_ci ok rfl ?_
    refine s_c_gt ok rfl ⟨by omega, by omega⟩ ⟨by omega, by omega⟩ (fun c15 => ?_) (fun c15 => ?_)
    · have em : m = 5 := by omega
      subst em
      refine s_retV ok rfl ⟨rfl, g, rfl, i1, i2, i3, i7, i8⟩
    · have hH : ∀ j : Int, 0 ≤ j → j < rN p dd → g 49 (5 * g 54 j + (m : Int)) = sFF m (sBeg (dC p w dd)) 64 (g 54 j) := fun j j0 j1 => by
        obtain ⟨y0, y1, y2⟩ := (i5 (g 54 j)).mp (rl_of j0 (by omega))
        have e := ((i8 _ y0 y1).1 y2)
        have := (i7.2.2 _ y0 y1 y2).2.1 (by omega)
        rw [e] at this
        exact this
      have hz : ∀ j : Int, 0 ≤ j → j < ((rN p dd).toNat : Int) → zb (g 49 (5 * g 54 j + (m : Int))) := fun j j0 j1 => by
        obtain ⟨y0, y1, y2⟩ := (i5 (g 54 j)).mp (rl_of j0 (by omega))
        rw [hH j j0 (by omega)]
        obtain ⟨-, ⟨b0, b1⟩, -⟩ := z1.2 _ y0 (by rw [z60]; exact y1)
        have e := ((i8 _ y0 y1).1 y2)
        exact ⟨by omega, by omega⟩
      refine s_ldA0 ok rfl ?_
      refine s_ldI3 ok rfl ?_
      refine s_callVvx ok rfl rfl rfl rfl rfl rfl (ct_orderTrains (d := d + 6) (a := (m : Int)) (by omega) (by omega) (rn := (rN p dd).toNat) (by rw [i4]; omega) (by omega) (fun j j0 j1 => by have := (i5 _).mp (rl_of (a := g 54) (n := (rN p dd).toNat) j0 j1); omega) (fun x y x0 xy y1 => i6 x y x0 xy (by omega)) hz) (fun σ20 hσ20 => ?_)
      obtain ⟨g20, rfl, hg20⟩ := hσ20
      refine s_ci ok rfl ?_
      refine s_stI4 ok rfl rfl ?_
      obtain ⟨f1, f2, f3, f4⟩ := hg20
      have qm : qM p dd g20 := fun y => (f4 y).trans (i5 y)
      have sq : sQ g20 (m : Int) (rl (g20 54) (rN p dd).toNat) := sQ_cg (f1 49 (by omega)) _ f3
      have hH2 : ∀ j : Int, 0 ≤ j → j < rN p dd → g20 49 (5 * g20 54 j + (m : Int)) = sFF m (sBeg (dC p w dd)) 64 (g20 54 j) := fun j j0 j1 => by
        obtain ⟨j2, j3, j4, j5⟩ := rl_mem _ ((f4 _).mp (rl_of (a := g20 54) (n := (rN p dd).toNat) j0 (by omega)))
        rw [f1 49 (by omega), ← j5]
        exact hH j2 j3 (by omega)
      have J0 : jI p w dd (m : Int) g20 (sFF m (sBeg (dC p w dd))) 0 g20 := ⟨sFF m (sBeg (dC p w dd)), fun _ _ => rfl, z1, z60, z17, tT_fr i7 (fun q _ _ => f1 q (by omega)), rfl, fun j j0 j1 => by omega, fun j j0 j1 => ⟨(by
        obtain ⟨y0, y1, y2⟩ := (qm (g20 54 j)).mp (rl_of (by omega) (by omega))
        exact (i8 _ y0 y1).1 y2), rfl⟩, fun y y0 y1 y2 => (i8 y y0 y1).2 y2⟩
      refine lp_go_in4 (E := E) (d := d) (k := k) (r := r) (l := l) (n := n) (h := g20) hp hdd (a := (m : Int)) (H := sFF m (sBeg (dC p w dd))) (by omega) (by omega) (tC_fr i3 (congrFun (f1 37 (by omega)) 6) (fun q _ _ => f1 q (by omega))) (cR4_trip hR (fun q hq => (f1 q (by omega)).trans (i1 q hq))) ((congrFun (f1 37 (by omega)) 18).trans i4) qm hH2 sq (fun _ => hf) (fun g3 u3 hu3 hg3 => ?_) (rN p dd + 1).toNat 0 g20 J0 (by omega) (by omega)
      obtain ⟨e1, e2, e3⟩ := hg3
      refine s_inc3 ok rfl rfl ?_
      refine s_goto ok rfl ?_
      refine ih (m + 1) g3 u3 ⟨fun q hq => (e1 q (by omega)).trans ((f1 q (by omega)).trans (i1 q hq)), fun j j6 j18 => (congrFun ((e1 37 (by omega)).trans (f1 37 (by omega))) j).trans (i2 j j6 j18), tC_fr (tC_fr i3 (congrFun (f1 37 (by omega)) 6) (fun q _ _ => f1 q (by omega))) (congrFun (e1 37 (by omega)) 6) (fun q _ _ => e1 q (by omega)), (congrFun ((e1 37 (by omega)).trans (f1 37 (by omega))) 18).trans i4, ?_, ?_, e2, e3⟩ (by omega) (by omega)
      · unfold qM
        rw [e1 54 (by omega)]
        exact qm
      · intro x y x0 xy y1 ee
        rw [e1 54 (by omega)] at ee
        have := sQ_rl _ sq x.toNat y.toNat (by omega) (by omega)
        rw [Int.toNat_of_nonneg x0, Int.toNat_of_nonneg (by omega), ee] at this
        unfold qA at this
        omega
theorem ct_go4 {E : zE} {d : Nat} {k : Nat → Nat × Nat} {h : Nat → Int → Int} {r : Nat → Int → Option Nat} {l : Nat → Nat → Int64} {n : Nat} {p : Int → Int} {w dd : Int} (hp : pOK p) (hdd : dd = 1 ∨ dd = 3) (hw : w = -4 ∨ (0 ≤ w ∧ w < p 6)) (hf : ∀ q : Int, 0 ≤ q → q < p 6 → ¬ pFr p q = 4) (hR : cR 4 5 6 7 8 9 10 11 12 13 k h r n p w) : zCT E (d + 8) M_X9_go [.ref 37, .ref 4, .int (iI (dd - 1))] (zJ (k, h, r, l, n)) 0 0 (zUx (zG k r l n (fun g => (∀ q : Nat, q < 37 ∨ 54 < q → g q = h q) ∧ (∀ j : Int, ¬ j = 6 → ¬ j = 18 → g 37 j = h 37 j) ∧ tC p w g ∧ tT p w dd g (dFF p w dd) ∧ sA p dd 5 (dFF p w dd)))) := by
  have ok := ok_X9_go
  refine zCT_of pn_X9_go (Nat.le_of_ble_eq_true rfl) ?_
  show zGo _ _ _ _ _ _ 0 ([some (.ref 37), some (.ref 4), some (.int (iI (dd - 1))), none, none], [], _, _, _)
  refine s_ldA0 ok rfl ?_
  refine s_ldA1 ok rfl ?_
  refine s_callVvx ok rfl rfl rfl rfl rfl rfl (ct_setPeople4 (d := d + 1) hp hR) (fun σ2 hσ2 => ?_)
  obtain ⟨g2, rfl, hg2⟩ := hσ2
  refine s_ldA0 ok rfl ?_
  refine s_ldA1 ok rfl ?_
  refine s_ldI2 ok rfl ?_
  refine s_callVvx ok rfl rfl rfl rfl rfl rfl (ct_setTrains4 (d := d + 5) hdd hp (cR4_trip hR (fun q hq => hg2.1 q (by omega)))) (fun σ8 hσ8 => ?_)
  obtain ⟨g8, rfl, hg8⟩ := hσ8
  refine s_ci ok rfl ?_
  refine s_stI3 ok rfl rfl ?_
  obtain ⟨a1, a2, a3, a4⟩ := hg2
  obtain ⟨b1, b2, b3, b4, b5⟩ := hg8
  have p0 := hp.1
  obtain ⟨q1, q2⟩ := qM_beg hdd p0 b4
  refine lp_go4 (E := E) (d := d) (k := k) (r := r) (l := l) (n := n) (h := h) hp hdd hw hf hR 6 0 g8 none ⟨fun q hq => (b1 q (by omega)).trans (a1 q (by omega)), fun j j6 j18 => (b2 j j18).trans (a2 j j6), tC_fr a3 (b2 6 (by omega)) (fun q _ _ => b1 q (by omega)), b3, q1, q2, tT_beg hw (fun t t0 t1 => ?_) b5, fun y y0 y1 => ?_⟩ (by omega) (by omega)
  · rw [b1 44 (by omega), b1 47 (by omega), b1 48 (by omega)]
    exact a4 t t0 t1
  · have t := (beg_t (p := p) (w := w) (dd := dd) y0 y1).1
    exact ⟨fun z => by rw [if_pos z] at t; exact t, fun z => by rw [if_neg z] at t; exact t⟩
theorem lp_go15 {E : zE} {d : Nat} {k : Nat → Nat × Nat} {h : Nat → Int → Int} {r : Nat → Int → Option Nat} {l : Nat → Nat → Int64} {n : Nat} {p : Int → Int} {w dd : Int} (hp : pOK p) (hdd : dd = 1 ∨ dd = 3) (hw : w = -4 ∨ (0 ≤ w ∧ w < p 6)) (hf : ∀ q : Int, 0 ≤ q → q < p 6 → ¬ pFr p q = 4) (hR : cR 15 16 17 18 19 20 21 22 23 24 k h r n p w) : ∀ c : Nat, ∀ (m : Nat) (g : Nat → Int → Int) (v : Option Value), (∀ q : Nat, q < 37 ∨ 54 < q → g q = h q) ∧ (∀ j : Int, ¬ j = 6 → ¬ j = 18 → g 37 j = h 37 j) ∧ tC p w g ∧ g 37 18 = rN p dd ∧ qM p dd g ∧ (∀ x y : Int, 0 ≤ x → x < y → y < rN p dd → ¬ g 54 x = g 54 y) ∧ tT p w dd g (sFF m (sBeg (dC p w dd))) ∧ sA p dd (m : Int) (sFF m (sBeg (dC p w dd))) → 5 < m + c → m ≤ 5 → zGo E (d + 8) M_X9_go 0 0 (zUx (zG k r l n (fun g => (∀ q : Nat, q < 37 ∨ 54 < q → g q = h q) ∧ (∀ j : Int, ¬ j = 6 → ¬ j = 18 → g 37 j = h 37 j) ∧ tC p w g ∧ tT p w dd g (dFF p w dd) ∧ sA p dd 5 (dFF p w dd)))) 13 ([some (.ref 37), some (.ref 15), some (.int (iI (dd - 1))), some (.int (iI ((m : Int)))), v], [], zJ (k, g, r, l, n), 0, 0) := by
  have ok := ok_X9_go
  intro c
  induction c with
  | zero =>
    intros
    omega
  | succ c ih =>
    intro m g v ⟨i1, i2, i3, i4, i5, i6, i7, i8⟩ g1 g2
    have p0 := hp.1
    have p4 := hp.2.1
    have p68 := hp.2.2.2.2.2.2.2.2.2.2.2.2.2.1
    have hd := dC_ok (p := p) (w := w) (dd := dd) hp ⟨by omega, by omega⟩
    have hb := dZ_beg hd
    obtain ⟨z1, z60, z59⟩ := sFF_ok m (by omega) hb.1
    rw [hb.2 60 (by omega), dC_60] at z60
    have z17 := z59 17 (by omega)
    rw [hb.2 59 (by omega), dC_17] at z17
    have rb : 0 ≤ rN p dd ∧ rN p dd ≤ 12 := by unfold rN; split <;> omega
    refine s_ldI3 ok rfl ?_
    refine s_ci ok rfl ?_
    refine s_c_gt ok rfl ⟨by omega, by omega⟩ ⟨by omega, by omega⟩ (fun c15 => ?_) (fun c15 => ?_)
    · have em : m = 5 := by omega
      subst em
      refine s_retV ok rfl ⟨rfl, g, rfl, i1, i2, i3, i7, i8⟩
    · have hH : ∀ j : Int, 0 ≤ j → j < rN p dd → g 49 (5 * g 54 j + (m : Int)) = sFF m (sBeg (dC p w dd)) 64 (g 54 j) := fun j j0 j1 => by
        obtain ⟨y0, y1, y2⟩ := (i5 (g 54 j)).mp (rl_of j0 (by omega))
        have e := ((i8 _ y0 y1).1 y2)
        have := (i7.2.2 _ y0 y1 y2).2.1 (by omega)
        rw [e] at this
        exact this
      have hz : ∀ j : Int, 0 ≤ j → j < ((rN p dd).toNat : Int) → zb (g 49 (5 * g 54 j + (m : Int))) := fun j j0 j1 => by
        obtain ⟨y0, y1, y2⟩ := (i5 (g 54 j)).mp (rl_of j0 (by omega))
        rw [hH j j0 (by omega)]
        obtain ⟨-, ⟨b0, b1⟩, -⟩ := z1.2 _ y0 (by rw [z60]; exact y1)
        have e := ((i8 _ y0 y1).1 y2)
        exact ⟨by omega, by omega⟩
      refine s_ldA0 ok rfl ?_
      refine s_ldI3 ok rfl ?_
      refine s_callVvx ok rfl rfl rfl rfl rfl rfl (ct_orderTrains (d := d + 6) (a := (m : Int)) (by omega) (by omega) (rn := (rN p dd).toNat) (by rw [i4]; omega) (by omega) (fun j j0 j1 => by have := (i5 _).mp (rl_of (a := g 54) (n := (rN p dd).toNat) j0 j1); omega) (fun x y x0 xy y1 => i6 x y x0 xy (by omega)) hz) (fun σ20 hσ20 => ?_)
      obtain ⟨g20, rfl, hg20⟩ := hσ20
      refine s_ci ok rfl ?_
      refine s_stI4 ok rfl rfl ?_
      obtain ⟨f1, f2, f3, f4⟩ := hg20
      have qm : qM p dd g20 := fun y => (f4 y).trans (i5 y)
      have sq : sQ g20 (m : Int) (rl (g20 54) (rN p dd).toNat) := sQ_cg (f1 49 (by omega)) _ f3
      have hH2 : ∀ j : Int, 0 ≤ j → j < rN p dd → g20 49 (5 * g20 54 j + (m : Int)) = sFF m (sBeg (dC p w dd)) 64 (g20 54 j) := fun j j0 j1 => by
        obtain ⟨j2, j3, j4, j5⟩ := rl_mem _ ((f4 _).mp (rl_of (a := g20 54) (n := (rN p dd).toNat) j0 (by omega)))
        rw [f1 49 (by omega), ← j5]
        exact hH j2 j3 (by omega)
      have J0 : jI p w dd (m : Int) g20 (sFF m (sBeg (dC p w dd))) 0 g20 := ⟨sFF m (sBeg (dC p w dd)), fun _ _ => rfl, z1, z60, z17, tT_fr i7 (fun q _ _ => f1 q (by omega)), rfl, fun j j0 j1 => by omega, fun j j0 j1 => ⟨(by
        obtain ⟨y0, y1, y2⟩ := (qm (g20 54 j)).mp (rl_of (by omega) (by omega))
        exact (i8 _ y0 y1).1 y2), rfl⟩, fun y y0 y1 y2 => (i8 y y0 y1).2 y2⟩
      refine lp_go_in15 (E := E) (d := d) (k := k) (r := r) (l := l) (n := n) (h := g20) hp hdd (a := (m : Int)) (H := sFF m (sBeg (dC p w dd))) (by omega) (by omega) (tC_fr i3 (congrFun (f1 37 (by omega)) 6) (fun q _ _ => f1 q (by omega))) (cR15_trip hR (fun q hq => (f1 q (by omega)).trans (i1 q hq))) ((congrFun (f1 37 (by omega)) 18).trans i4) qm hH2 sq (fun _ => hf) (fun g3 u3 hu3 hg3 => ?_) (rN p dd + 1).toNat 0 g20 J0 (by omega) (by omega)
      obtain ⟨e1, e2, e3⟩ := hg3
      refine s_inc3 ok rfl rfl ?_
      refine s_goto ok rfl ?_
      refine ih (m + 1) g3 u3 ⟨fun q hq => (e1 q (by omega)).trans ((f1 q (by omega)).trans (i1 q hq)), fun j j6 j18 => (congrFun ((e1 37 (by omega)).trans (f1 37 (by omega))) j).trans (i2 j j6 j18), tC_fr (tC_fr i3 (congrFun (f1 37 (by omega)) 6) (fun q _ _ => f1 q (by omega))) (congrFun (e1 37 (by omega)) 6) (fun q _ _ => e1 q (by omega)), (congrFun ((e1 37 (by omega)).trans (f1 37 (by omega))) 18).trans i4, ?_, ?_, e2, e3⟩ (by omega) (by omega)
      · unfold qM
        rw [e1 54 (by omega)]
        exact qm
      · intro x y x0 xy y1 ee
        rw [e1 54 (by omega)] at ee
        have := sQ_rl _ sq x.toNat y.toNat (by omega) (by omega)
        rw [Int.toNat_of_nonneg x0, Int.toNat_of_nonneg (by omega), ee] at this
        unfold qA at this
        omega
theorem ct_go15 {E : zE} {d : Nat} {k : Nat → Nat × Nat} {h : Nat → Int → Int} {r : Nat → Int → Option Nat} {l : Nat → Nat → Int64} {n : Nat} {p : Int → Int} {w dd : Int} (hp : pOK p) (hdd : dd = 1 ∨ dd = 3) (hw : w = -4 ∨ (0 ≤ w ∧ w < p 6)) (hf : ∀ q : Int, 0 ≤ q → q < p 6 → ¬ pFr p q = 4) (hR : cR 15 16 17 18 19 20 21 22 23 24 k h r n p w) : zCT E (d + 8) M_X9_go [.ref 37, .ref 15, .int (iI (dd - 1))] (zJ (k, h, r, l, n)) 0 0 (zUx (zG k r l n (fun g => (∀ q : Nat, q < 37 ∨ 54 < q → g q = h q) ∧ (∀ j : Int, ¬ j = 6 → ¬ j = 18 → g 37 j = h 37 j) ∧ tC p w g ∧ tT p w dd g (dFF p w dd) ∧ sA p dd 5 (dFF p w dd)))) := by
  have ok := ok_X9_go
  refine zCT_of pn_X9_go (Nat.le_of_ble_eq_true rfl) ?_
  show zGo _ _ _ _ _ _ 0 ([some (.ref 37), some (.ref 15), some (.int (iI (dd - 1))), none, none], [], _, _, _)
  refine s_ldA0 ok rfl ?_
  refine s_ldA1 ok rfl ?_
  refine s_callVvx ok rfl rfl rfl rfl rfl rfl (ct_setPeople15 (d := d + 1) hp hR) (fun σ2 hσ2 => ?_)
  obtain ⟨g2, rfl, hg2⟩ := hσ2
  refine s_ldA0 ok rfl ?_
  refine s_ldA1 ok rfl ?_
  refine s_ldI2 ok rfl ?_
  refine s_callVvx ok rfl rfl rfl rfl rfl rfl (ct_setTrains15 (d := d + 5) hdd hp (cR15_trip hR (fun q hq => hg2.1 q (by omega)))) (fun σ8 hσ8 => ?_)
  obtain ⟨g8, rfl, hg8⟩ := hσ8
  refine s_ci ok rfl ?_
  refine s_stI3 ok rfl rfl ?_
  obtain ⟨a1, a2, a3, a4⟩ := hg2
  obtain ⟨b1, b2, b3, b4, b5⟩ := hg8
  have p0 := hp.1
  obtain ⟨q1, q2⟩ := qM_beg hdd p0 b4
  refine lp_go15 (E := E) (d := d) (k := k) (r := r) (l := l) (n := n) (h := h) hp hdd hw hf hR 6 0 g8 none ⟨fun q hq => (b1 q (by omega)).trans (a1 q (by omega)), fun j j6 j18 => (b2 j j18).trans (a2 j j6), tC_fr a3 (b2 6 (by omega)) (fun q _ _ => b1 q (by omega)), b3, q1, q2, tT_beg hw (fun t t0 t1 => ?_) b5, fun y y0 y1 => ?_⟩ (by omega) (by omega)
  · rw [b1 44 (by omega), b1 47 (by omega), b1 48 (by omega)]
    exact a4 t t0 t1
  · have t := (beg_t (p := p) (w := w) (dd := dd) y0 y1).1
    exact ⟨fun z => by rw [if_pos z] at t; exact t, fun z => by rw [if_neg z] at t; exact t⟩
