/-! the class: need -/
theorem lp_need11 {E : zE} {d : Nat} {k : Nat → Nat × Nat} {h : Nat → Int → Int} {r : Nat → Int → Option Nat} {l : Nat → Nat → Int64} {n : Nat} {p : Int → Int} (hs : pS p) (hR : cR 4 5 6 7 8 9 10 11 12 13 k h r n p (-4)) {t : Int} (t0 : 0 ≤ t) (t1 : t < p 0) : ∀ c : Nat, ∀ (m : Nat) (g : Nat → Int → Int) (r9 : Nat → Int → Option Nat) (x : Int), (0 ≤ x ∧ x ≤ 9) → cT h g ∧ cR 15 16 17 18 19 20 21 22 23 24 k g r9 n (zp p (11 + 2 * t + 1) x) (-4) ∧ (∀ q, ¬ q = 16 → r9 q = r q) ∧ sNd (fun v => dMn (zp p (11 + 2 * t + 1) v) (-4) 3) (p 6) m = -4 → 10 < m + c → m ≤ 10 → zGo E (d + 10) M_X11_need 0 0 (zVx (.int (iI (sNd (fun v => dMn (zp p (11 + 2 * t + 1) v) (-4) 3) (p 6) 10))) (fun s => ∃ g r9, s = zJ (k, g, r9, l, n) ∧ cT h g ∧ (∀ q, ¬ q = 16 → r9 q = r q))) 26 ([some (.ref 3), some (.int (iI (t))), some (.int (iI ((m : Int))))], [], zJ (k, g, r9, l, n), 0, 0) := by
  have ok := ok_X11_need
  intro c
  induction c with
  | zero =>
    intros
    omega
  | succ c ih =>
    intro m g r9 x ⟨x0, x1⟩ ⟨i1, i2, i3, i4⟩ g1 g2
    have hp := hs.1
    have hft := hs.2.2.2.1
    have p60 := hp.2.2.2.2.2.2.2.2.2.2.2.2.1
    have p68 := hp.2.2.2.2.2.2.2.2.2.2.2.2.2.1
    have p00 := hp.1
    have p04 := hp.2.1
    have hf : ∀ q : Int, 0 ≤ q → q < p 6 → ¬ pFr p q = 4 := fun q q0 q1 => by have := pOf_gt hp q0 (by omega) (hft q q0 q1); omega
    refine s_ldI2 ok rfl ?_
    refine s_ci ok rfl ?_
    refine s_c_gt ok rfl ⟨by omega, by omega⟩ ⟨by omega, by omega⟩ (fun c29 => ?_) (fun c29 => ?_)
    · refine s_ci ok rfl ?_
      have em : m = 10 := by omega
      subst em
      exact s_retI ok rfl ⟨congrArg (fun z => some (Value.int (iI z))) i4.symm, g, r9, rfl, i1, i3⟩
    · refine s_ldA0 ok rfl ?_
      have hp9 : pOK (zp p (11 + 2 * t + 1) (m : Int)) := pOK_put hp (Or.inr (Or.inr (Or.inr (Or.inr (Or.inr (Or.inr (Or.inr ⟨by omega, by omega, by omega, by omega, by omega⟩)))))))
      have e69 : (zp p (11 + 2 * t + 1) (m : Int)) 6 = p 6 := zp_ne (by omega)
      have hft9 : ∀ u : Int, 0 ≤ u → u < (zp p (11 + 2 * t + 1) (m : Int)) 6 → pFr (zp p (11 + 2 * t + 1) (m : Int)) u < pTo (zp p (11 + 2 * t + 1) (m : Int)) u := fun u u0 u1 => by
        rw [show pFr (zp p (11 + 2 * t + 1) (m : Int)) u = pFr p u from zp_ne (by omega), show pTo (zp p (11 + 2 * t + 1) (m : Int)) u = pTo p u from zp_ne (by omega)]
        exact hft u u0 (by omega)
      have hf9 : ∀ u : Int, 0 ≤ u → u < (zp p (11 + 2 * t + 1) (m : Int)) 6 → ¬ pFr (zp p (11 + 2 * t + 1) (m : Int)) u = 4 := fun u u0 u1 => by have := pOf_gt hp9 u0 (by omega) (hft9 u u0 u1); omega
      have hR9 : cR 15 16 17 18 19 20 21 22 23 24 k (zv g 21 t (m : Int)) r9 n (zp p (11 + 2 * t + 1) (m : Int)) (-4) := by
        have z := cR15_seats i2 (x := t) (v := (m : Int)) t0 (by omega) (by rw [show (zp p (11 + 2 * t + 1) x) 0 = p 0 from zp_ne (by omega)]; exact p04)
        rw [zp_zp] at z
        exact z
      refine s_getF ok rfl rfl rfl rfl ?_
      refine s_getF ok rfl rfl rfl rfl ?_
      refine s_ldI1 ok rfl ?_
      refine s_ldI2 ok rfl ?_
      refine s_iast ok rfl (by exact rfl) (by exact rfl) (by omega) (by omega) (fun q => by cases q) ?_
      refine s_ldA0 ok rfl ?_
      refine s_getF ok rfl rfl rfl rfl ?_
      refine s_ldA0 ok rfl ?_
      refine s_getF ok rfl rfl rfl rfl ?_
      refine s_ci ok rfl ?_
      refine s_callVvx ok rfl rfl rfl rfl rfl rfl (ct_go15 (d := d + 1) (p := (zp p (11 + 2 * t + 1) (m : Int))) (w := -4) (dd := 3) hp9 (Or.inr rfl) (Or.inl rfl) hf9 hR9) (fun σ51 hσ51 => ?_)
      obtain ⟨g51, rfl, hg51⟩ := hσ51
      obtain ⟨gf51, -, gC51, gT51, gS51⟩ := hg51
      have D51 := tD_of hp9 (Or.inl rfl) hft9 gT51 gS51
      have e3751 : g51 37 6 = (zp p (11 + 2 * t + 1) (m : Int)) 6 := gC51.1.trans cnP_4
      have hz51 : ∀ s : Int, 0 ≤ s → s < (zp p (11 + 2 * t + 1) (m : Int)) 6 → zb (g51 44 s) := fun s s0 s1 => by
        rw [(tD_one D51 s0 s1).1]
        split
        · exact ⟨by omega, by omega⟩
        · exact (dN_ok (dd := 3) hp9 (w := -4) ⟨by omega, by omega⟩).2.1 s
      have eA51 : zsum (tO g51) ((zp p (11 + 2 * t + 1) (m : Int)) 6).toNat = dMn (zp p (11 + 2 * t + 1) (m : Int)) (-4) 3 := by
        unfold dMn
        refine zsum_cg _ fun s s0 s1 => ?_
        have := (tD_a D51 (t := s) s0 (by rw [cnP_4]; omega)).2.1
        rw [sg_4] at this
        exact this
      have eP : g51 15 0 = p 6 := ((cR15_trip hR9 gf51).1.1.trans cnP_4).trans e69
      have bd := dMn_in (p := (zp p (11 + 2 * t + 1) (m : Int))) (w := -4) (dd := 3) hp9
      have es : sNd (fun v => dMn (zp p (11 + 2 * t + 1) v) (-4) 3) (p 6) (m + 1) = if sNd (fun v => dMn (zp p (11 + 2 * t + 1) v) (-4) 3) (p 6) m = -4 ∧ (fun v => dMn (zp p (11 + 2 * t + 1) v) (-4) 3) (m : Int) = p 6 then (m : Int) else sNd (fun v => dMn (zp p (11 + 2 * t + 1) v) (-4) 3) (p 6) m := rfl
      have eB : (fun v => dMn (zp p (11 + 2 * t + 1) v) (-4) 3) (m : Int) = dMn (zp p (11 + 2 * t + 1) (m : Int)) (-4) 3 := rfl
      refine s_ldA0 ok rfl ?_
      refine s_getF ok rfl rfl rfl rfl ?_
      refine s_callV ok rfl rfl rfl rfl rfl rfl (ct_arriving9 (h := g51) (cn := ((zp p (11 + 2 * t + 1) (m : Int)) 6).toNat) (by rw [e3751]; omega) (by omega) (fun s s0 s1 => hz51 s s0 (by omega))) ?_
      rw [eA51]
      refine s_ldA0 ok rfl ?_
      refine s_getF ok rfl rfl rfl rfl ?_
      refine s_getJ 0 ok rfl rfl rfl rfl ?_
      rw [eP]
      refine s_c_eq ok rfl ⟨by omega, by omega⟩ ⟨by omega, by omega⟩ (fun c68 => ?_) (fun c68 => ?_)
      · refine s_ldI2 ok rfl ?_
        rw [if_pos ⟨i4, by omega⟩] at es
        have fx := sNd_fix (B := (fun v => dMn (zp p (11 + 2 * t + 1) v) (-4) 3)) (N := p 6) (c := m + 1) (by rw [es]; omega) (10 - (m + 1))
        rw [show m + 1 + (10 - (m + 1)) = 10 by omega, es] at fx
        exact s_retI ok rfl ⟨congrArg (fun z => some (Value.int (iI z))) fx.symm, g51, r9, rfl, fun q hq => (gf51 q (by omega)).trans ((zv_other (by omega)).trans (i1 q hq)), i3⟩
      · refine s_inc2 ok rfl rfl ?_
        refine s_goto ok rfl ?_
        rw [if_neg (fun z => c68 (by have := z.2; omega)), i4] at es
        exact ih (m + 1) g51 r9 (m : Int) ⟨by omega, by omega⟩ ⟨fun q hq => (gf51 q (by omega)).trans ((zv_other (by omega)).trans (i1 q hq)), cR15_trip hR9 gf51, i3, es⟩ (by omega) (by omega)
theorem ct_need11 {E : zE} {d : Nat} {k : Nat → Nat × Nat} {h : Nat → Int → Int} {r : Nat → Int → Option Nat} {l : Nat → Nat → Int64} {n : Nat} {p : Int → Int} (hs : pS p) (hR : cR 4 5 6 7 8 9 10 11 12 13 k h r n p (-4)) {t : Int} (zt : zb t) : zCT E (d + 10) M_X11_need [.ref 3, .int (iI (t))] (zJ (k, h, r, l, n)) 0 0 (zVx (.int (iI (if 0 ≤ t ∧ t < p 0 then sNd (fun v => dMn (zp p (11 + 2 * t + 1) v) (-4) 3) (p 6) 10 else -1))) (fun s => ∃ g r9, s = zJ (k, g, r9, l, n) ∧ cT h g ∧ (∀ q, ¬ q = 16 → r9 q = r q))) := by
  have ok := ok_X11_need
  refine zCT_of pn_X11_need (Nat.le_of_ble_eq_true rfl) ?_
  show zGo _ _ _ _ _ _ 0 ([some (.ref 3), some (.int (iI (t))), none], [], _, _, _)
  have hp := hs.1
  have hft := hs.2.2.2.1
  have p60 := hp.2.2.2.2.2.2.2.2.2.2.2.2.1
  have p68 := hp.2.2.2.2.2.2.2.2.2.2.2.2.2.1
  have p00 := hp.1
  have p04 := hp.2.1
  have hf : ∀ q : Int, 0 ≤ q → q < p 6 → ¬ pFr p q = 4 := fun q q0 q1 => by have := pOf_gt hp q0 (by omega) (hft q q0 q1); omega
  refine s_ldA0 ok rfl ?_
  refine s_getF ok rfl rfl rfl rfl ?_
  refine s_ldI1 ok rfl ?_
  refine s_callV ok rfl rfl rfl rfl rfl rfl (ct_pisTrain4 hR.1.2 p00 p04 zt) ?_
  refine s_if_eq ok rfl zif01 (fun c8 => ?_) (fun c8 => ?_)
  · refine s_ci ok rfl ?_
    exact s_retI ok rfl ⟨congrArg (fun z => some (Value.int (iI z))) (if_neg (zif_f c8)).symm, h, r, rfl, fun _ _ => rfl, fun _ _ => rfl⟩
  · have yt := zif_t c8
    refine s_ldA0 ok rfl ?_
    refine s_getF ok rfl rfl rfl rfl ?_
    refine s_ldA0 ok rfl ?_
    refine s_getF ok rfl rfl rfl rfl ?_
    refine s_callVvx ok rfl rfl rfl rfl rfl rfl (ct_become15_4 (d := d + 8) hR (by rw [cnP_4]; omega) p04) (fun σ21 hσ21 => ?_)
    obtain ⟨g21, r21, rfl, hg21⟩ := hσ21
    obtain ⟨f21, i3, hQ⟩ := hg21
    refine s_ci ok rfl ?_
    refine s_stI2 ok rfl rfl ?_
    have bs := hp.2.2.2.2.2.2.2.2.2.2.2.2.2.2.2.1 t yt.1 (by omega)
    have K := lp_need11 (E := E) (d := d) (k := k) (h := h) (r := r) (l := l) (n := n) hs hR yt.1 yt.2 11 0 g21 r21 (p (11 + 2 * t + 1)) ⟨bs.2.2.1, bs.2.2.2⟩ ⟨fun q hq => f21 q (by omega), by rw [zp_id]; exact hQ, i3, rfl⟩ (by omega) (by omega)
    rw [if_pos yt]
    exact K
