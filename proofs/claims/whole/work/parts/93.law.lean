/-! the class: law -/
theorem ct_arrivingWithLate {E : zE} {d : Nat} {k : Nat → Nat × Nat} {h : Nat → Int → Int} {r : Nat → Int → Option Nat} {l : Nat → Nat → Int64} {n : Nat} {q : Int → Int} (hq : pOK q) (hft : ∀ u : Int, 0 ≤ u → u < q 6 → pFr q u < pTo q u) (hR : cR 15 16 17 18 19 20 21 22 23 24 k h r n q (-4)) {v : Int} (v0 : 0 ≤ v) (v1 : v ≤ 30) : zCT E (d + 9) M_X11_arrivingWithLate [.ref 3, .int (iI (v))] (zJ (k, h, r, l, n)) 0 0 (zVx (.int (iI (dMn (zp q 2 v) (-4) 3))) (zG k r l n (fun g => cT h g ∧ cR 15 16 17 18 19 20 21 22 23 24 k g r n (zp q 2 v) (-4)))) := by
  have ok := ok_X11_arrivingWithLate
  refine zCT_of pn_X11_arrivingWithLate (Nat.le_of_ble_eq_true rfl) ?_
  show zGo _ _ _ _ _ _ 0 ([some (.ref 3), some (.int (iI (v)))], [], _, _, _)
  have p68 := hq.2.2.2.2.2.2.2.2.2.2.2.2.2.1
  have p60 := hq.2.2.2.2.2.2.2.2.2.2.2.2.1
  have hp9 : pOK (zp q 2 v) := pOK_put hq (Or.inr (Or.inl ⟨rfl, v0, v1⟩))
  have e69 : (zp q 2 v) 6 = q 6 := zp_ne (by omega)
  have hft9 : ∀ u : Int, 0 ≤ u → u < (zp q 2 v) 6 → pFr (zp q 2 v) u < pTo (zp q 2 v) u := fun u u0 u1 => by
    rw [show pFr (zp q 2 v) u = pFr q u from zp_ne (by omega), show pTo (zp q 2 v) u = pTo q u from zp_ne (by omega)]
    exact hft u u0 (by omega)
  have hf9 : ∀ u : Int, 0 ≤ u → u < (zp q 2 v) 6 → ¬ pFr (zp q 2 v) u = 4 := fun u u0 u1 => by have := pOf_gt hp9 u0 (by omega) (hft9 u u0 u1); omega
  have hR9 : cR 15 16 17 18 19 20 21 22 23 24 k (zv h 24 0 v) r n (zp q 2 v) (-4) := cR15_rule hR (x := 0) (by omega) (by omega)
  refine s_ldA0 ok rfl ?_
  refine s_getF ok rfl rfl rfl rfl ?_
  refine s_getF ok rfl rfl rfl rfl ?_
  refine s_ci ok rfl ?_
  refine s_ldI1 ok rfl ?_
  refine s_iast ok rfl (by exact rfl) (by exact rfl) (by omega) (by omega) (fun q => by cases q) ?_
  refine s_ldA0 ok rfl ?_
  refine s_getF ok rfl rfl rfl rfl ?_
  refine s_ldA0 ok rfl ?_
  refine s_getF ok rfl rfl rfl rfl ?_
  refine s_ci ok rfl ?_
  refine s_callVvx ok rfl rfl rfl rfl rfl rfl (ct_go15 (d := d) (p := (zp q 2 v)) (w := -4) (dd := 3) hp9 (Or.inr rfl) (Or.inl rfl) hf9 hR9) (fun σ19 hσ19 => ?_)
  obtain ⟨g19, rfl, hg19⟩ := hσ19
  obtain ⟨gf19, -, gC19, gT19, gS19⟩ := hg19
  have D19 := tD_of hp9 (Or.inl rfl) hft9 gT19 gS19
  have e3719 : g19 37 6 = (zp q 2 v) 6 := gC19.1.trans cnP_4
  have hz19 : ∀ s : Int, 0 ≤ s → s < (zp q 2 v) 6 → zb (g19 44 s) := fun s s0 s1 => by
    rw [(tD_one D19 s0 s1).1]
    split
    · exact ⟨by omega, by omega⟩
    · exact (dN_ok (dd := 3) hp9 (w := -4) ⟨by omega, by omega⟩).2.1 s
  have eA19 : zsum (tO g19) ((zp q 2 v) 6).toNat = dMn (zp q 2 v) (-4) 3 := by
    unfold dMn
    refine zsum_cg _ fun s s0 s1 => ?_
    have := (tD_a D19 (t := s) s0 (by rw [cnP_4]; omega)).2.1
    rw [sg_4] at this
    exact this
  refine s_ldA0 ok rfl ?_
  refine s_getF ok rfl rfl rfl rfl ?_
  refine s_callV ok rfl rfl rfl rfl rfl rfl (ct_arriving9 (h := g19) (cn := ((zp q 2 v) 6).toNat) (by rw [e3719]; omega) (by omega) (fun s s0 s1 => hz19 s s0 (by omega))) ?_
  exact s_retI ok rfl ⟨congrArg (fun z => some (Value.int (iI z))) eA19, _, rfl, fun x hx => (gf19 x (by omega)).trans (zv_other (by omega)), cR15_trip hR9 gf19⟩
theorem ct_law11 {E : zE} {d : Nat} {k : Nat → Nat × Nat} {h : Nat → Int → Int} {r : Nat → Int → Option Nat} {l : Nat → Nat → Int64} {n : Nat} {p : Int → Int} (hs : pS p) (hR : cR 4 5 6 7 8 9 10 11 12 13 k h r n p (-4)) (hS : cS k h) {t : Int} (zt : zb t) : zCT E (d + 10) M_X11_law [.ref 3, .int (iI (t))] (zJ (k, h, r, l, n)) 0 0 (zVx (.int (iI (if 0 ≤ t ∧ t ≤ 30 then dMn (zp p 2 t) (-4) 3 - dMn p (-4) 3 else -1000000001))) (fun s => ∃ g r9, s = zJ (k, g, r9, l, n) ∧ cT h g ∧ (∀ q, ¬ q = 16 → r9 q = r q))) := by
  have ok := ok_X11_law
  refine zCT_of pn_X11_law (Nat.le_of_ble_eq_true rfl) ?_
  show zGo _ _ _ _ _ _ 0 ([some (.ref 3), some (.int (iI (t))), none], [], _, _, _)
  have hp := hs.1
  have hft := hs.2.2.2.1
  have p60 := hp.2.2.2.2.2.2.2.2.2.2.2.2.1
  have p68 := hp.2.2.2.2.2.2.2.2.2.2.2.2.2.1
  have p00 := hp.1
  have p04 := hp.2.1
  have hf : ∀ q : Int, 0 ≤ q → q < p 6 → ¬ pFr p q = 4 := fun q q0 q1 => by have := pOf_gt hp q0 (by omega) (hft q q0 q1); omega
  have sr : sRu 0 t ↔ (0 ≤ t ∧ t ≤ 30) := by unfold sRu; omega
  refine s_ci ok rfl ?_
  refine s_ldI1 ok rfl ?_
  refine s_callS ok rfl rfl rfl rfl (ct_pisRule hS (t := 0) (b := t) ⟨by omega, by omega⟩ zt) ?_
  refine s_if_eq ok rfl zif01 (fun c5 => ?_) (fun c5 => ?_)
  · refine s_ci ok rfl ?_
    exact s_retI ok rfl ⟨congrArg (fun z => some (Value.int (iI z))) (if_neg (fun z => zif_f c5 (sr.mpr z))).symm, h, r, rfl, fun _ _ => rfl, fun _ _ => rfl⟩
  · have yt := sr.mp (zif_t c5)
    refine s_ldA0 ok rfl ?_
    refine s_getF ok rfl rfl rfl rfl ?_
    refine s_ldA0 ok rfl ?_
    refine s_getF ok rfl rfl rfl rfl ?_
    refine s_ci ok rfl ?_
    refine s_callVvx ok rfl rfl rfl rfl rfl rfl (ct_go4 (d := d + 1) (p := p) (w := -4) (dd := 3) hp (Or.inr rfl) (Or.inl rfl) hf hR) (fun σ21 hσ21 => ?_)
    obtain ⟨g21, rfl, hg21⟩ := hσ21
    obtain ⟨gf21, -, gC21, gT21, gS21⟩ := hg21
    have D21 := tD_of hp (Or.inl rfl) hft gT21 gS21
    have e3721 : g21 37 6 = p 6 := gC21.1.trans cnP_4
    have hz21 : ∀ s : Int, 0 ≤ s → s < p 6 → zb (g21 44 s) := fun s s0 s1 => by
      rw [(tD_one D21 s0 s1).1]
      split
      · exact ⟨by omega, by omega⟩
      · exact (dN_ok (dd := 3) hp (w := -4) ⟨by omega, by omega⟩).2.1 s
    have eA21 : zsum (tO g21) (p 6).toNat = dMn p (-4) 3 := by
      unfold dMn
      refine zsum_cg _ fun s s0 s1 => ?_
      have := (tD_a D21 (t := s) s0 (by rw [cnP_4]; omega)).2.1
      rw [sg_4] at this
      exact this
    refine s_ldA0 ok rfl ?_
    refine s_getF ok rfl rfl rfl rfl ?_
    refine s_callV ok rfl rfl rfl rfl rfl rfl (ct_arriving9 (h := g21) (cn := (p 6).toNat) (by rw [e3721]; omega) (by omega) (fun s s0 s1 => hz21 s s0 (by omega))) ?_
    refine s_stI2 ok rfl rfl ?_
    refine s_ldA0 ok rfl ?_
    refine s_getF ok rfl rfl rfl rfl ?_
    refine s_ldA0 ok rfl ?_
    refine s_getF ok rfl rfl rfl rfl ?_
    have hR21 := cR4_trip hR (g := g21) (fun q hq => gf21 q hq)
    refine s_callVvx ok rfl rfl rfl rfl rfl rfl (ct_become15_4 (d := d + 8) hR21 (by rw [cnP_4]; omega) p04) (fun σ40 hσ40 => ?_)
    obtain ⟨g40, r40, rfl, hg40⟩ := hσ40
    obtain ⟨f40, i3, hQ⟩ := hg40
    refine s_ldA0 ok rfl ?_
    refine s_ldI1 ok rfl ?_
    refine s_callVx ok rfl rfl rfl rfl rfl rfl (ct_arrivingWithLate (d := d) hp hft hQ yt.1 yt.2) (fun σ45 hσ45 => ?_)
    obtain ⟨g45, rfl, hg45⟩ := hσ45
    refine s_ldI2 ok rfl ?_
    refine s_sub ok rfl ?_
    exact s_retI ok rfl ⟨congrArg (fun z => some (Value.int (iI z))) (by rw [if_pos yt, eA21]), g45, r40, rfl, fun q hq => (hg45.1 q hq).trans ((f40 q (by omega)).trans (gf21 q (by omega))), i3⟩
