/-! the class: slack, odds -/
theorem ct_slack11 {E : zE} {d : Nat} {k : Nat → Nat × Nat} {h : Nat → Int → Int} {r : Nat → Int → Option Nat} {l : Nat → Nat → Int64} {n : Nat} {p : Int → Int} (hs : pS p) (hR : cR 4 5 6 7 8 9 10 11 12 13 k h r n p (-4)) {t : Int} (zt : zb t) : zCT E (d + 10) M_X11_slack [.ref 3, .int (iI (t))] (zJ (k, h, r, l, n)) 0 0 (zVx (.int (iI (if 0 ≤ t ∧ t < p 6 then sSlk (lA p (-4) 3 t) ((lA p (-4) 3 t) 0) 60 else -1))) (fun s => ∃ g r9, s = zJ (k, g, r9, l, n) ∧ cT h g ∧ (∀ q, ¬ q = 16 → r9 q = r q))) := by
  have ok := ok_X11_slack
  refine zCT_of pn_X11_slack (Nat.le_of_ble_eq_true rfl) ?_
  show zGo _ _ _ _ _ _ 0 ([some (.ref 3), some (.int (iI (t))), none, none], [], _, _, _)
  have hp := hs.1
  have hft := hs.2.2.2.1
  have p60 := hp.2.2.2.2.2.2.2.2.2.2.2.2.1
  have p68 := hp.2.2.2.2.2.2.2.2.2.2.2.2.2.1
  have p00 := hp.1
  have p04 := hp.2.1
  have hf : ∀ q : Int, 0 ≤ q → q < p 6 → ¬ pFr p q = 4 := fun q q0 q1 => by have := pOf_gt hp q0 (by omega) (hft q q0 q1); omega
  refine s_ldA0 ok rfl ?_
  refine s_getF ok rfl rfl rfl rfl ?_
  refine s_ldI1 ok rfl ?_
  refine s_callV ok rfl rfl rfl rfl rfl rfl (ct_isPerson4 (cR4_n hR) p60 p68 zt) ?_
  refine s_if_eq ok rfl zif01 (fun c8 => ?_) (fun c8 => ?_)
  · refine s_ci ok rfl ?_
    exact s_retI ok rfl ⟨congrArg (fun z => some (Value.int (iI z))) (if_neg (fun q => zif_f c8 q)).symm, h, r, rfl, fun _ _ => rfl, fun _ _ => rfl⟩
  · have yt := zif_t c8
    have t0 := yt.1
    have t1 := yt.2
    obtain ⟨v8, hv8, wv8, h28, h38, h48⟩ := cR4_one hR t0 t1
    have b300 := hs.2.1 t t0 (by omega)
    obtain ⟨-, -, -, -, ⟨ba0, -⟩⟩ := hp.2.2.2.2.2.2.2.2.2.2.2.2.2.2.2.2 t t0 (by omega)
    refine s_ldA0 ok rfl ?_
    refine s_getF ok rfl rfl rfl rfl ?_
    refine s_ldA0 ok rfl ?_
    refine s_getF ok rfl rfl rfl rfl ?_
    refine s_callVvx ok rfl rfl rfl rfl rfl rfl (ct_become15_4 (d := d + 8) hR (by rw [cnP_4]; omega) p04) (fun σ21 hσ21 => ?_)
    obtain ⟨g21, r21, rfl, hg21⟩ := hσ21
    obtain ⟨f21, i3, hQ⟩ := hg21
    have i1 : cT h g21 := fun q hq => f21 q (by omega)
    have hQ2 : cR 15 16 17 18 19 20 21 22 23 24 k g21 r21 n (zp p (19 + 5 * t + 4) (p (19 + 5 * t + 4))) (-4) := by rw [zp_id]; exact hQ
    refine s_ldA0 ok rfl ?_
    refine s_ldI1 ok rfl ?_
    refine s_ldA0 ok rfl ?_
    refine s_getF ok rfl rfl rfl rfl ?_
    refine s_getF ok rfl rfl rfl rfl ?_
    refine s_ldI1 ok rfl ?_
    refine s_iald ok rfl (by exact rfl) (by exact rfl) (by omega) (by omega) ?_
    have hq9 : pOK (zp p (19 + 5 * t + 4) (p (19 + 5 * t + 4))) := by rw [zp_id]; exact hp
    have af := ct_arrivalFrom (E := E) (d := d) (k := k) (h := g21) (r := r21) (l := l) (n := n) (q := zp p (19 + 5 * t + 4) (p (19 + 5 * t + 4))) hq9 (fun u u0 u1 => by
      rw [zp_id] at u1 ⊢
      exact hft u u0 u1) hQ2 (t := t) (v := pBa p t + 0) t0 (by rw [zp_id]; exact t1) (by omega) (by omega)
    rw [zp_zp] at af
    rw [show g21 8 t = pBa p t from (congrFun (i1 8 (by omega)) t).trans h48, show pBa p t = pBa p t + 0 by omega]
    refine s_callVx ok rfl rfl rfl rfl rfl rfl af (fun σ35 hσ35 => ?_)
    obtain ⟨g35, rfl, hg35⟩ := hσ35
    rw [show dA (zp p (19 + 5 * t + 4) (pBa p t + 0)) (-4) 3 t = lA p (-4) 3 t 0 from rfl]
    refine s_stI2 ok rfl rfl ?_
    refine s_ci ok rfl ?_
    refine s_stI3 ok rfl rfl ?_
    have K := lp_slack11 (E := E) (d := d) (k := k) (h := h) (r := r) (l := l) (n := n) hs hR t0 t1 61 60 g35 r21 (pBa p t + 0) ⟨by omega, by omega⟩ ⟨fun q hq => (hg35.1 q hq).trans (i1 q hq), hg35.2, i3⟩ (by omega) (by omega)
    rw [show (if 0 ≤ t ∧ t < p 6 then sSlk (lA p (-4) 3 t) (lA p (-4) 3 t 0) 60 else -1) = sSlk (lA p (-4) 3 t) (lA p (-4) 3 t 0) 60 from if_pos yt]
    exact K
