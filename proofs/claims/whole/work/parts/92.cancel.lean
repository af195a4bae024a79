/-! the class: cancel -/
theorem ct_cancel11 {E : zE} {d : Nat} {k : Nat → Nat × Nat} {h : Nat → Int → Int} {r : Nat → Int → Option Nat} {l : Nat → Nat → Int64} {n : Nat} {p : Int → Int} (hs : pS p) (hR : cR 4 5 6 7 8 9 10 11 12 13 k h r n p (-4)) {t : Int} (zt : zb t) : zCT E (d + 10) M_X11_cancel [.ref 3, .int (iI (t))] (zJ (k, h, r, l, n)) 0 0 (zVx (.int (iI (if 0 ≤ t ∧ t < p 0 then dMn (zp p 1 (zxb (p 1) t)) (-4) 3 - dMn p (-4) 3 else -1000000001))) (fun s => ∃ g r9, s = zJ (k, g, r9, l, n) ∧ cT h g ∧ (∀ q, ¬ q = 16 → r9 q = r q))) := by
  have ok := ok_X11_cancel
  refine zCT_of pn_X11_cancel (Nat.le_of_ble_eq_true rfl) ?_
  show zGo _ _ _ _ _ _ 0 ([some (.ref 3), some (.int (iI (t))), none], [], _, _, _)
  have hp := hs.1
  have hft := hs.2.2.2.1
  have p60 := hp.2.2.2.2.2.2.2.2.2.2.2.2.1
  have p68 := hp.2.2.2.2.2.2.2.2.2.2.2.2.2.1
  have p00 := hp.1
  have p04 := hp.2.1
  have hf : ∀ q : Int, 0 ≤ q → q < p 6 → ¬ pFr p q = 4 := fun q q0 q1 => by have := pOf_gt hp q0 (by omega) (hft q q0 q1); omega
  refine s_ldA0 ok rfl ?_
  refine s_getF ok rfl rfl rfl rfl ?_
  refine s_ldI1 ok rfl ?_
  refine s_callV ok rfl rfl rfl rfl rfl rfl (ct_pisTrain4 hR.1.2 p00 p04 zt) ?_
  refine s_if_eq ok rfl zif01 (fun c8 => ?_) (fun c8 => ?_)
  · refine s_ci ok rfl ?_
    exact s_retI ok rfl ⟨congrArg (fun z => some (Value.int (iI z))) (if_neg (zif_f c8)).symm, h, r, rfl, fun _ _ => rfl, fun _ _ => rfl⟩
  · have yt := zif_t c8
    refine s_ldA0 ok rfl ?_
    refine s_getF ok rfl rfl rfl rfl ?_
    refine s_ldA0 ok rfl ?_
    refine s_getF ok rfl rfl rfl rfl ?_
    refine s_ci ok rfl ?_
    refine s_callVvx ok rfl rfl rfl rfl rfl rfl (ct_go4 (d := d + 1) (p := p) (w := -4) (dd := 3) hp (Or.inr rfl) (Or.inl rfl) hf hR) (fun σ24 hσ24 => ?_)
    obtain ⟨g24, rfl, hg24⟩ := hσ24
    obtain ⟨gf24, -, gC24, gT24, gS24⟩ := hg24
    have D24 := tD_of hp (Or.inl rfl) hft gT24 gS24
    have e3724 : g24 37 6 = p 6 := gC24.1.trans cnP_4
    have hz24 : ∀ s : Int, 0 ≤ s → s < p 6 → zb (g24 44 s) := fun s s0 s1 => by
      rw [(tD_one D24 s0 s1).1]
      split
      · exact ⟨by omega, by omega⟩
      · exact (dN_ok (dd := 3) hp (w := -4) ⟨by omega, by omega⟩).2.1 s
    have eA24 : zsum (tO g24) (p 6).toNat = dMn p (-4) 3 := by
      unfold dMn
      refine zsum_cg _ fun s s0 s1 => ?_
      have := (tD_a D24 (t := s) s0 (by rw [cnP_4]; omega)).2.1
      rw [sg_4] at this
      exact this
    refine s_ldA0 ok rfl ?_
    refine s_getF ok rfl rfl rfl rfl ?_
    refine s_callV ok rfl rfl rfl rfl rfl rfl (ct_arriving9 (h := g24) (cn := (p 6).toNat) (by rw [e3724]; omega) (by omega) (fun s s0 s1 => hz24 s s0 (by omega))) ?_
    refine s_stI2 ok rfl rfl ?_
    refine s_ldA0 ok rfl ?_
    refine s_getF ok rfl rfl rfl rfl ?_
    refine s_ldA0 ok rfl ?_
    refine s_getF ok rfl rfl rfl rfl ?_
    have hR24 := cR4_trip hR (g := g24) (fun q hq => gf24 q hq)
    refine s_callVvx ok rfl rfl rfl rfl rfl rfl (ct_become15_4 (d := d + 8) hR24 (by rw [cnP_4]; omega) p04) (fun σ43 hσ43 => ?_)
    obtain ⟨g43, r43, rfl, hg43⟩ := hσ43
    obtain ⟨f43, i3, hQ⟩ := hg43
    refine s_ldA0 ok rfl ?_
    refine s_getF ok rfl rfl rfl rfl ?_
    refine s_ldI1 ok rfl ?_
    refine s_callVvx ok rfl rfl rfl rfl rfl rfl (ct_turn15 hQ yt.1 yt.2 p04 hp.2.2.1 hp.2.2.2.1) (fun σ51 hσ51 => ?_)
    obtain ⟨g51, rfl, hg51⟩ := hσ51
    obtain ⟨eg51, hR51⟩ := hg51
    have hp9 : pOK (zp p 1 (zxb (p 1) t)) := pOK_put hp (Or.inl ⟨rfl, (zxb4 hp.2.2.1 hp.2.2.2.1 yt.1 (by omega)).1⟩)
    have e69 : (zp p 1 (zxb (p 1) t)) 6 = p 6 := zp_ne (by omega)
    have hft9 : ∀ u : Int, 0 ≤ u → u < (zp p 1 (zxb (p 1) t)) 6 → pFr (zp p 1 (zxb (p 1) t)) u < pTo (zp p 1 (zxb (p 1) t)) u := fun u u0 u1 => by
      rw [show pFr (zp p 1 (zxb (p 1) t)) u = pFr p u from zp_ne (by omega), show pTo (zp p 1 (zxb (p 1) t)) u = pTo p u from zp_ne (by omega)]
      exact hft u u0 (by omega)
    have hf9 : ∀ u : Int, 0 ≤ u → u < (zp p 1 (zxb (p 1) t)) 6 → ¬ pFr (zp p 1 (zxb (p 1) t)) u = 4 := fun u u0 u1 => by
      rw [show pFr (zp p 1 (zxb (p 1) t)) u = pFr p u from zp_ne (by omega)]
      exact hf u u0 (by omega)
    refine s_ldA0 ok rfl ?_
    refine s_getF ok rfl rfl rfl rfl ?_
    refine s_ldA0 ok rfl ?_
    refine s_getF ok rfl rfl rfl rfl ?_
    refine s_ci ok rfl ?_
    refine s_callVvx ok rfl rfl rfl rfl rfl rfl (ct_go15 (d := d + 1) (p := (zp p 1 (zxb (p 1) t))) (w := -4) (dd := 3) hp9 (Or.inr rfl) (Or.inl rfl) hf9 hR51) (fun σ63 hσ63 => ?_)
    obtain ⟨g63, rfl, hg63⟩ := hσ63
    obtain ⟨gf63, -, gC63, gT63, gS63⟩ := hg63
    have D63 := tD_of hp9 (Or.inl rfl) hft9 gT63 gS63
    have e3763 : g63 37 6 = (zp p 1 (zxb (p 1) t)) 6 := gC63.1.trans cnP_4
    have hz63 : ∀ s : Int, 0 ≤ s → s < (zp p 1 (zxb (p 1) t)) 6 → zb (g63 44 s) := fun s s0 s1 => by
      rw [(tD_one D63 s0 s1).1]
      split
      · exact ⟨by omega, by omega⟩
      · exact (dN_ok (dd := 3) hp9 (w := -4) ⟨by omega, by omega⟩).2.1 s
    have eA63 : zsum (tO g63) ((zp p 1 (zxb (p 1) t)) 6).toNat = dMn (zp p 1 (zxb (p 1) t)) (-4) 3 := by
      unfold dMn
      refine zsum_cg _ fun s s0 s1 => ?_
      have := (tD_a D63 (t := s) s0 (by rw [cnP_4]; omega)).2.1
      rw [sg_4] at this
      exact this
    refine s_ldA0 ok rfl ?_
    refine s_getF ok rfl rfl rfl rfl ?_
    refine s_callV ok rfl rfl rfl rfl rfl rfl (ct_arriving9 (h := g63) (cn := ((zp p 1 (zxb (p 1) t)) 6).toNat) (by rw [e3763]; omega) (by omega) (fun s s0 s1 => hz63 s s0 (by omega))) ?_
    refine s_ldI2 ok rfl ?_
    refine s_sub ok rfl ?_
    exact s_retI ok rfl ⟨congrArg (fun z => some (Value.int (iI z))) (by rw [if_pos yt, eA24, eA63]), g63, r43, rfl, fun q hq => (gf63 q (by omega)).trans ((show g51 q = g43 q by rw [eg51]; exact zv_other (by omega)).trans ((f43 q (by omega)).trans (gf24 q (by omega)))), i3⟩
