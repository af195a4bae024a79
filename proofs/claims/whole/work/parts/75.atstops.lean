/-! the trip: at a stop -/
theorem ct_atStop4 {E : zE} {d : Nat} {k : Nat → Nat × Nat} {h : Nat → Int → Int} {r : Nat → Int → Option Nat} {l : Nat → Nat → Int64} {n : Nat} {p : Int → Int} {w dd x a : Int} {H : Nat → Int → Int} (hd : dP H) (e6 : H 60 = p) (ew : H 59 17 = w) (ha : H 63 x = a) (a0 : 0 ≤ a) (a4 : a ≤ 4) (b64 : 0 ≤ H 64 x ∧ H 64 x ≤ 100000) (b65 : -300 ≤ H 65 x ∧ H 65 x ≤ 300) (b66 : 0 ≤ H 66 x ∧ H 66 x ≤ 1000) (x0 : 0 ≤ x) (x1 : x < 3 * p 0) (x2 : x % 3 < dd) (hf : a = 4 → ∀ q : Int, 0 ≤ q → q < p 6 → ¬ pFr p q = 4) (h63 : ∀ y : Int, 0 ≤ y → y < 3 * p 0 → 0 ≤ H 63 y ∧ H 63 y ≤ 5) (hC : tC p w h) (hR : cR 4 5 6 7 8 9 10 11 12 13 k h r n p w) (tt : tT p w dd h H) : zCT E (d + 7) M_X9_atStop [.ref 37, .ref 4, .int (iI (x)), .int (iI (a))] (zJ (k, h, r, l, n)) 0 0 (zUx (zG k r l n (fun g => (∀ q : Nat, q < 44 ∨ 53 < q → g q = h q) ∧ tT p w dd g (sStop x H)))) := by
  have ok := ok_X9_atStop
  refine zCT_of pn_X9_atStop (Nat.le_of_ble_eq_true rfl) ?_
  show zGo _ _ _ _ _ _ 0 ([some (.ref 37), some (.ref 4), some (.int (iI (x))), some (.int (iI (a))), none, none, none, none], [], _, _, _)
  have hp : pOK p := e6 ▸ hd.1
  have p4 := hp.2.1
  have h4 : zb (H 64 x) := ⟨by omega, by omega⟩
  have dS := sS2_ok (x := x) hd h4
  have dS10 := dS.2.2.2.2.2.2.2.2.2.1
  have dS11 := dS.2.2.2.2.2.2.2.2.2.2
  have kF := (sF_n (p := p) (w := w) (a := a) hd e6 h4 x0 (by omega)).2.2
  have mi : h 49 (5 * x + a) = H 64 x := by have := (tt.2.2 x x0 x1 x2).2.1 (by omega); rw [ha] at this; exact this
  have eS2 : sGO x (zv (zv H 59 19 0) 67 (5 * x + a) (H 64 x)) (p 6).toNat = sS2 x H := by unfold sS2 nP; rw [e6, ha]
  have hd1 : dP (zv (zv H 59 19 0) 67 (5 * x + a) (H 64 x)) := ⟨hd.1, hd.2.1, hd.2.2.1, hd.2.2.2.1, hd.2.2.2.2⟩
  refine s_ci ok rfl ?_
  refine s_ldI2 ok rfl ?_
  refine s_mul ok rfl ?_
  refine s_ldI3 ok rfl ?_
  refine s_add ok rfl ?_
  refine s_stI4 ok rfl rfl ?_
  refine s_ldA0 ok rfl ?_
  refine s_ldI2 ok rfl ?_
  refine s_ldI3 ok rfl ?_
  refine s_callVx ok rfl rfl rfl rfl rfl rfl (ct_letOff (d := d + 6) (H := (zv (zv H 59 19 0) 67 (5 * x + a) (H 64 x))) hd1 e6 ha a0 (by omega) b64 x0 x1 x2 hC.1 (fun t t0 t1 => ⟨(hC.2.1 t t0 t1).2.2.2.1, (hC.2.1 t t0 t1).2.2.2.2⟩) mi (show (if (19 : Int) = 19 then (0 : Int) else H 59 19) = 0 from if_pos rfl) tt.1 tt.2.1) (fun σ10 hσ10 => ?_)
  obtain ⟨g10, rfl, hg10⟩ := hσ10
  rw [eS2] at hg10 ⊢
  obtain ⟨f1, tp1, tb1⟩ := hg10
  have hC1 : tC p w g10 := by
    unfold tC at hC ⊢
    rw [f1 37 (by omega) (by omega) (by omega), f1 38 (by omega) (by omega) (by omega), f1 39 (by omega) (by omega) (by omega), f1 40 (by omega) (by omega) (by omega), f1 41 (by omega) (by omega) (by omega), f1 42 (by omega) (by omega) (by omega), f1 43 (by omega) (by omega) (by omega)]
    exact hC
  have hR1 := cR4_trip hR (g := g10) (fun q hq => f1 q (by omega) (by omega) (by omega))
  have mi1 : g10 49 (5 * x + a) = sS2 x H 64 x := (congrFun (f1 49 (by omega) (by omega) (by omega)) _).trans (mi.trans (congrFun (sS2_n.2.1 64 (by omega)) x).symm)
  refine s_stI5 ok rfl rfl ?_
  refine s_ldA0 ok rfl ?_
  refine s_ldA1 ok rfl ?_
  refine s_ldI2 ok rfl ?_
  refine s_ldI3 ok rfl ?_
  refine s_callVx ok rfl rfl rfl rfl rfl rfl (ct_letOn4 (d := d) (H := sS2 x H) dS.2.2.2.2.2.2.2.2.1 ((sS2_n.2.1 60 (by omega)).trans e6) a0 (by omega) (by rw [congrFun (sS2_n.2.1 64 (by omega)) x]; exact b64) ⟨by omega, by omega⟩ x0 x1 x2 hC1 hR1 mi1 tp1 tb1) (fun σ19 hσ19 => ?_)
  obtain ⟨g19, rfl, hg19⟩ := hσ19
  obtain ⟨f2, tp2, tb2⟩ := hg19
  have z51 : g19 51 x = H 66 x := (congrFun ((f2 51 (by omega) (by omega) (by omega) (by omega) (by omega) (by omega)).trans (f1 51 (by omega) (by omega) (by omega))) x).trans (tt.2.2 x x0 x1 x2).1
  have z53 : g19 53 x = (sF p w x a H) 65 x := (tb2 x x0 x1 x2).1
  have z49 : g19 49 (5 * x + a) = H 64 x := (congrFun ((f2 49 (by omega) (by omega) (by omega) (by omega) (by omega) (by omega)).trans (f1 49 (by omega) (by omega) (by omega))) _).trans mi
  have pl : ∀ q : Nat, q < 37 → g19 q = h q := fun q hq => (f2 q (by omega) (by omega) (by omega) (by omega) (by omega) (by omega)).trans (f1 q (by omega) (by omega) (by omega))
  have e8 : a < 4 → g19 12 a = p (7 + a) := fun a3 => (congrFun (pl 12 (by omega)) a).trans (hR.2.2.2.2.2 a a0 a3).1
  have e92 : g19 13 2 = p 4 := (congrFun (pl 13 (by omega)) 2).trans (hR.2.2.2.2.2 2 (by omega) (by omega)).2
  have e93 : g19 13 3 = p 5 := (congrFun (pl 13 (by omega)) 3).trans (hR.2.2.2.2.2 3 (by omega) (by omega)).2
  have K28 : ∀ (b5 : Int) (u v : Option Value), (b5 = 0 ∨ b5 = 1) → ((¬ b5 = 0 ∧ 0 < (sF p w x a H) 59 19) ∨ (b5 = 0 ∧ ¬ 0 < (sF p w x a H) 59 19)) → zGo E (d + 7) M_X9_atStop 0 0 (zUx (zG k r l n (fun g => (∀ q : Nat, q < 44 ∨ 53 < q → g q = h q) ∧ tT p w dd g (sStop x H)))) 28 ([some (.ref 37), some (.ref 4), some (.int (iI (x))), some (.int (iI (a))), some (.int (iI (5 * x + a))), some (.int (iI (b5))), u, v], [], zJ (k, g19, r, l, n), 0, 0) := fun b5 u v hb hh => by
    refine lp_stop28_4 (d := d + 6) (p := p) (m6 := H 64 x) x0 (by omega) a0 a4 hb ⟨by omega, by omega⟩ ⟨by omega, by omega⟩ z49 e8 (fun a3 => hp.2.2.2.2.2.2.2.2.2.2.2.2.2.2.1 (7 + a) (by omega) (by omega)) e92 e93 ⟨hp.2.2.2.2.2.2.2.2.1, hp.2.2.2.2.2.2.2.2.2.1⟩ (fun g3 hg3 => ⟨rfl, g3, rfl, fun q hq => (hg3.1 q (by omega) (by omega) (by omega)).trans ((f2 q (by omega) (by omega) (by omega) (by omega) (by omega) (by omega)).trans (f1 q (by omega) (by omega) (by omega))), ?_⟩)
    refine tStop hd e6 ew ha a0 a4 h4 x0 x1 x2 hf h63 tt tp2 tb2 ((f2 49 (by omega) (by omega) (by omega) (by omega) (by omega) (by omega)).trans (f1 49 (by omega) (by omega) (by omega))) ((f2 50 (by omega) (by omega) (by omega) (by omega) (by omega) (by omega)).trans (f1 50 (by omega) (by omega) (by omega))) ((f2 51 (by omega) (by omega) (by omega) (by omega) (by omega) (by omega)).trans (f1 51 (by omega) (by omega) (by omega))) hg3.1 (fun i => ?_) hg3.2.2.1 hg3.2.2.2
    have eH : (if 0 < x % 3 ∧ ¬ b5 = 0 then p 5 else 0) = (if 0 < x % 3 ∧ 0 < (sF p w x a H) 59 19 then p 5 else 0) := by
      split <;> split <;> first | rfl | (exfalso; omega)
    rw [hg3.2.1 i, eH]
  refine s_if_eq ok rfl zif01 (fun c22 => ?_) (fun c22 => ?_)
  · first
      | (have c : ¬ sS2 x H 59 19 < sF p w x a H 59 19 := zif_f c22
         exact K28 _ _ _ (by split <;> omega) (by split <;> omega))
      | (have c : sS2 x H 59 19 < sF p w x a H 59 19 := zif_t c22
         exact K28 1 _ _ (Or.inr rfl) (Or.inl ⟨by omega, by omega⟩))
  · refine s_ci ok rfl ?_
    refine s_stI5 ok rfl rfl ?_
    first
      | (have c : ¬ sS2 x H 59 19 < sF p w x a H 59 19 := zif_f c22
         exact K28 _ _ _ (by split <;> omega) (by split <;> omega))
      | (have c : sS2 x H 59 19 < sF p w x a H 59 19 := zif_t c22
         exact K28 1 _ _ (Or.inr rfl) (Or.inl ⟨by omega, by omega⟩))
theorem ct_atStop15 {E : zE} {d : Nat} {k : Nat → Nat × Nat} {h : Nat → Int → Int} {r : Nat → Int → Option Nat} {l : Nat → Nat → Int64} {n : Nat} {p : Int → Int} {w dd x a : Int} {H : Nat → Int → Int} (hd : dP H) (e6 : H 60 = p) (ew : H 59 17 = w) (ha : H 63 x = a) (a0 : 0 ≤ a) (a4 : a ≤ 4) (b64 : 0 ≤ H 64 x ∧ H 64 x ≤ 100000) (b65 : -300 ≤ H 65 x ∧ H 65 x ≤ 300) (b66 : 0 ≤ H 66 x ∧ H 66 x ≤ 1000) (x0 : 0 ≤ x) (x1 : x < 3 * p 0) (x2 : x % 3 < dd) (hf : a = 4 → ∀ q : Int, 0 ≤ q → q < p 6 → ¬ pFr p q = 4) (h63 : ∀ y : Int, 0 ≤ y → y < 3 * p 0 → 0 ≤ H 63 y ∧ H 63 y ≤ 5) (hC : tC p w h) (hR : cR 15 16 17 18 19 20 21 22 23 24 k h r n p w) (tt : tT p w dd h H) : zCT E (d + 7) M_X9_atStop [.ref 37, .ref 15, .int (iI (x)), .int (iI (a))] (zJ (k, h, r, l, n)) 0 0 (zUx (zG k r l n (fun g => (∀ q : Nat, q < 44 ∨ 53 < q → g q = h q) ∧ tT p w dd g (sStop x H)))) := by
  have ok := ok_X9_atStop
  refine zCT_of pn_X9_atStop (Nat.le_of_ble_eq_true rfl) ?_
  show zGo _ _ _ _ _ _ 0 ([some (.ref 37), some (.ref 15), some (.int (iI (x))), some (.int (iI (a))), none, none, none, none], [], _, _, _)
  have hp : pOK p := e6 ▸ hd.1
  have p4 := hp.2.1
  have h4 : zb (H 64 x) := ⟨by omega, by omega⟩
  have dS := sS2_ok (x := x) hd h4
  have dS10 := dS.2.2.2.2.2.2.2.2.2.1
  have dS11 := dS.2.2.2.2.2.2.2.2.2.2
  have kF := (sF_n (p := p) (w := w) (a := a) hd e6 h4 x0 (by omega)).2.2
  have mi : h 49 (5 * x + a) = H 64 x := by have := (tt.2.2 x x0 x1 x2).2.1 (by omega); rw [ha] at this; exact this
  have eS2 : sGO x (zv (zv H 59 19 0) 67 (5 * x + a) (H 64 x)) (p 6).toNat = sS2 x H := by unfold sS2 nP; rw [e6, ha]
  have hd1 : dP (zv (zv H 59 19 0) 67 (5 * x + a) (H 64 x)) := ⟨hd.1, hd.2.1, hd.2.2.1, hd.2.2.2.1, hd.2.2.2.2⟩
  refine s_ci ok rfl ?_
  refine s_ldI2 ok rfl ?_
  refine s_mul ok rfl ?_
  refine s_ldI3 ok rfl ?_
  refine s_add ok rfl ?_
  refine s_stI4 ok rfl rfl ?_
  refine s_ldA0 ok rfl ?_
  refine s_ldI2 ok rfl ?_
  refine s_ldI3 ok rfl ?_
  refine s_callVx ok rfl rfl rfl rfl rfl rfl (ct_letOff (d := d + 6) (H := (zv (zv H 59 19 0) 67 (5 * x + a) (H 64 x))) hd1 e6 ha a0 (by omega) b64 x0 x1 x2 hC.1 (fun t t0 t1 => ⟨(hC.2.1 t t0 t1).2.2.2.1, (hC.2.1 t t0 t1).2.2.2.2⟩) mi (show (if (19 : Int) = 19 then (0 : Int) else H 59 19) = 0 from if_pos rfl) tt.1 tt.2.1) (fun σ10 hσ10 => ?_)
  obtain ⟨g10, rfl, hg10⟩ := hσ10
  rw [eS2] at hg10 ⊢
  obtain ⟨f1, tp1, tb1⟩ := hg10
  have hC1 : tC p w g10 := by
    unfold tC at hC ⊢
    rw [f1 37 (by omega) (by omega) (by omega), f1 38 (by omega) (by omega) (by omega), f1 39 (by omega) (by omega) (by omega), f1 40 (by omega) (by omega) (by omega), f1 41 (by omega) (by omega) (by omega), f1 42 (by omega) (by omega) (by omega), f1 43 (by omega) (by omega) (by omega)]
    exact hC
  have hR1 := cR15_trip hR (g := g10) (fun q hq => f1 q (by omega) (by omega) (by omega))
  have mi1 : g10 49 (5 * x + a) = sS2 x H 64 x := (congrFun (f1 49 (by omega) (by omega) (by omega)) _).trans (mi.trans (congrFun (sS2_n.2.1 64 (by omega)) x).symm)
  refine s_stI5 ok rfl rfl ?_
  refine s_ldA0 ok rfl ?_
  refine s_ldA1 ok rfl ?_
  refine s_ldI2 ok rfl ?_
  refine s_ldI3 ok rfl ?_
  refine s_callVx ok rfl rfl rfl rfl rfl rfl (ct_letOn15 (d := d) (H := sS2 x H) dS.2.2.2.2.2.2.2.2.1 ((sS2_n.2.1 60 (by omega)).trans e6) a0 (by omega) (by rw [congrFun (sS2_n.2.1 64 (by omega)) x]; exact b64) ⟨by omega, by omega⟩ x0 x1 x2 hC1 hR1 mi1 tp1 tb1) (fun σ19 hσ19 => ?_)
  obtain ⟨g19, rfl, hg19⟩ := hσ19
  obtain ⟨f2, tp2, tb2⟩ := hg19
  have z51 : g19 51 x = H 66 x := (congrFun ((f2 51 (by omega) (by omega) (by omega) (by omega) (by omega) (by omega)).trans (f1 51 (by omega) (by omega) (by omega))) x).trans (tt.2.2 x x0 x1 x2).1
  have z53 : g19 53 x = (sF p w x a H) 65 x := (tb2 x x0 x1 x2).1
  have z49 : g19 49 (5 * x + a) = H 64 x := (congrFun ((f2 49 (by omega) (by omega) (by omega) (by omega) (by omega) (by omega)).trans (f1 49 (by omega) (by omega) (by omega))) _).trans mi
  have pl : ∀ q : Nat, q < 37 → g19 q = h q := fun q hq => (f2 q (by omega) (by omega) (by omega) (by omega) (by omega) (by omega)).trans (f1 q (by omega) (by omega) (by omega))
  have e8 : a < 4 → g19 23 a = p (7 + a) := fun a3 => (congrFun (pl 23 (by omega)) a).trans (hR.2.2.2.2.2 a a0 a3).1
  have e92 : g19 24 2 = p 4 := (congrFun (pl 24 (by omega)) 2).trans (hR.2.2.2.2.2 2 (by omega) (by omega)).2
  have e93 : g19 24 3 = p 5 := (congrFun (pl 24 (by omega)) 3).trans (hR.2.2.2.2.2 3 (by omega) (by omega)).2
  have K28 : ∀ (b5 : Int) (u v : Option Value), (b5 = 0 ∨ b5 = 1) → ((¬ b5 = 0 ∧ 0 < (sF p w x a H) 59 19) ∨ (b5 = 0 ∧ ¬ 0 < (sF p w x a H) 59 19)) → zGo E (d + 7) M_X9_atStop 0 0 (zUx (zG k r l n (fun g => (∀ q : Nat, q < 44 ∨ 53 < q → g q = h q) ∧ tT p w dd g (sStop x H)))) 28 ([some (.ref 37), some (.ref 15), some (.int (iI (x))), some (.int (iI (a))), some (.int (iI (5 * x + a))), some (.int (iI (b5))), u, v], [], zJ (k, g19, r, l, n), 0, 0) := fun b5 u v hb hh => by
    refine lp_stop28_15 (d := d + 6) (p := p) (m6 := H 64 x) x0 (by omega) a0 a4 hb ⟨by omega, by omega⟩ ⟨by omega, by omega⟩ z49 e8 (fun a3 => hp.2.2.2.2.2.2.2.2.2.2.2.2.2.2.1 (7 + a) (by omega) (by omega)) e92 e93 ⟨hp.2.2.2.2.2.2.2.2.1, hp.2.2.2.2.2.2.2.2.2.1⟩ (fun g3 hg3 => ⟨rfl, g3, rfl, fun q hq => (hg3.1 q (by omega) (by omega) (by omega)).trans ((f2 q (by omega) (by omega) (by omega) (by omega) (by omega) (by omega)).trans (f1 q (by omega) (by omega) (by omega))), ?_⟩)
    refine tStop hd e6 ew ha a0 a4 h4 x0 x1 x2 hf h63 tt tp2 tb2 ((f2 49 (by omega) (by omega) (by omega) (by omega) (by omega) (by omega)).trans (f1 49 (by omega) (by omega) (by omega))) ((f2 50 (by omega) (by omega) (by omega) (by omega) (by omega) (by omega)).trans (f1 50 (by omega) (by omega) (by omega))) ((f2 51 (by omega) (by omega) (by omega) (by omega) (by omega) (by omega)).trans (f1 51 (by omega) (by omega) (by omega))) hg3.1 (fun i => ?_) hg3.2.2.1 hg3.2.2.2
    have eH : (if 0 < x % 3 ∧ ¬ b5 = 0 then p 5 else 0) = (if 0 < x % 3 ∧ 0 < (sF p w x a H) 59 19 then p 5 else 0) := by
      split <;> split <;> first | rfl | (exfalso; omega)
    rw [hg3.2.1 i, eH]
  refine s_if_eq ok rfl zif01 (fun c22 => ?_) (fun c22 => ?_)
  · first
      | (have c : ¬ sS2 x H 59 19 < sF p w x a H 59 19 := zif_f c22
         exact K28 _ _ _ (by split <;> omega) (by split <;> omega))
      | (have c : sS2 x H 59 19 < sF p w x a H 59 19 := zif_t c22
         exact K28 1 _ _ (Or.inr rfl) (Or.inl ⟨by omega, by omega⟩))
  · refine s_ci ok rfl ?_
    refine s_stI5 ok rfl rfl ?_
    first
      | (have c : ¬ sS2 x H 59 19 < sF p w x a H 59 19 := zif_f c22
         exact K28 _ _ _ (by split <;> omega) (by split <;> omega))
      | (have c : sS2 x H 59 19 < sF p w x a H 59 19 := zif_t c22
         exact K28 1 _ _ (Or.inr rfl) (Or.inl ⟨by omega, by omega⟩))
