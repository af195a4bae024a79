/-! the class: odds -/
theorem lp_odds11 {E : zE} {d : Nat} {k : Nat → Nat × Nat} {h : Nat → Int → Int} {r : Nat → Int → Option Nat} {l : Nat → Nat → Int64} {n : Nat} {p : Int → Int} (hs : pS p) (hR : cR 4 5 6 7 8 9 10 11 12 13 k h r n p (-4)) {t : Int} (t0 : 0 ≤ t) (t1 : t < p 6) : ∀ c : Nat, ∀ (m : Nat) (g : Nat → Int → Int) (r9 : Nat → Int → Option Nat) (x : Int), (0 ≤ x ∧ x ≤ 360) → cT h g ∧ cR 15 16 17 18 19 20 21 22 23 24 k g r9 n (zp p (19 + 5 * t + 4) x) (-4) ∧ (∀ q, ¬ q = 16 → r9 q = r q) → 10 < m + c → m ≤ 10 → zGo E (d + 10) M_X11_odds 0 0 (zVx (.int (iI ((sTen (lA p (-4) 3 t) 10).1))) (fun s => ∃ g r9, s = zJ (k, g, r9, l, n) ∧ cT h g ∧ (∀ q, ¬ q = 16 → r9 q = r q))) 28 ([some (.ref 3), some (.int (iI (t))), some (.int (iI ((sTen (lA p (-4) 3 t) m).1))), some (.int (iI ((m : Int))))], [], zJ (k, g, r9, l, n), 0, 0) := by
  have ok := ok_X11_odds
  intro c
  induction c with
  | zero =>
    intros
    omega
  | succ c ih =>
    intro m g r9 x ⟨x0, x1⟩ ⟨i1, i2, i3⟩ g1 g2
    have hp := hs.1
    have hft := hs.2.2.2.1
    have p60 := hp.2.2.2.2.2.2.2.2.2.2.2.2.1
    have p68 := hp.2.2.2.2.2.2.2.2.2.2.2.2.2.1
    have p00 := hp.1
    have p04 := hp.2.1
    have hf : ∀ q : Int, 0 ≤ q → q < p 6 → ¬ pFr p q = 4 := fun q q0 q1 => by have := pOf_gt hp q0 (by omega) (hft q q0 q1); omega
    obtain ⟨v8, hv8, wv8, h28, h38, h48⟩ := cR4_one hR t0 t1
    have b300 := hs.2.1 t t0 (by omega)
    obtain ⟨-, -, -, -, ⟨ba0, -⟩⟩ := hp.2.2.2.2.2.2.2.2.2.2.2.2.2.2.2.2 t t0 (by omega)
    refine s_ldI3 ok rfl ?_
    refine s_ci ok rfl ?_
    refine s_c_ge ok rfl ⟨by omega, by omega⟩ ⟨by omega, by omega⟩ (fun c31 => ?_) (fun c31 => ?_)
    · refine s_ldI2 ok rfl ?_
      have em : m = 10 := by omega
      subst em
      exact s_retI ok rfl ⟨rfl, g, r9, rfl, i1, i3⟩
    · refine s_ldA0 ok rfl ?_
      refine s_ldI1 ok rfl ?_
      refine s_ldA0 ok rfl ?_
      refine s_getF ok rfl rfl rfl rfl ?_
      refine s_getF ok rfl rfl rfl rfl ?_
      refine s_ldI1 ok rfl ?_
      refine s_iald ok rfl (by exact rfl) (by exact rfl) (by omega) (by omega) ?_
      have hq9 : pOK (zp p (19 + 5 * t + 4) x) := pOK_base hp t0 x0 x1
      have af := ct_arrivalFrom (E := E) (d := d) (k := k) (h := g) (r := r9) (l := l) (n := n) (q := zp p (19 + 5 * t + 4) x) hq9 (fun u u0 u1 => by
        rw [show pFr (zp p (19 + 5 * t + 4) x) u = pFr p u from zp_ne (by omega), show pTo (zp p (19 + 5 * t + 4) x) u = pTo p u from zp_ne (by omega)]
        exact hft u u0 (by rw [show (zp p (19 + 5 * t + 4) x) 6 = p 6 from zp_ne (by omega)] at u1; exact u1)) i2 (t := t) (v := pBa p t + (m : Int)) t0 (by rw [show (zp p (19 + 5 * t + 4) x) 6 = p 6 from zp_ne (by omega)]; exact t1) (by omega) (by omega)
      rw [zp_zp] at af
      rw [show g 8 t = pBa p t from (congrFun (i1 8 (by omega)) t).trans h48]
      refine s_ldI3 ok rfl ?_
      refine s_add ok rfl ?_
      refine s_callVx ok rfl rfl rfl rfl rfl rfl af (fun σ47 hσ47 => ?_)
      obtain ⟨g47, rfl, hg47⟩ := hσ47
      have in9 : lA p (-4) 3 t (m : Int) ≤ 2000 := (dA_in (dd := 3) (t := t) ((lA_zb (w := -4) (dd := 3) (m := (m : Int)) hp ⟨by omega, by omega⟩ t0 (by omega) b300 (by omega) (by omega))).2 (w := -4) ⟨by omega, by omega⟩).2
      rw [show dA (zp p (19 + 5 * t + 4) (pBa p t + (m : Int))) (-4) 3 t = lA p (-4) 3 t (m : Int) from rfl]
      refine s_ci ok rfl ?_
      refine s_c_ge ok rfl ((lA_zb (w := -4) (dd := 3) (m := (m : Int)) hp ⟨by omega, by omega⟩ t0 (by omega) b300 (by omega) (by omega))).1 ⟨by omega, by omega⟩ (fun c53 => ?_) (fun c53 => ?_)
      · refine s_inc3 ok rfl rfl ?_
        refine s_goto ok rfl ?_
        have es : sTen (lA p (-4) 3 t) (m + 1) = if (lA p (-4) 3 t) (m : Int) = 2000 then sTen (lA p (-4) 3 t) m else ((sTen (lA p (-4) 3 t) m).1 + 1, (sTen (lA p (-4) 3 t) m).2 + (lA p (-4) 3 t) (m : Int)) := rfl
        have nx := ih (m + 1) g47 r9 (pBa p t + (m : Int)) ⟨by omega, by omega⟩ ⟨fun q hq => (hg47.1 q hq).trans (i1 q hq), hg47.2, i3⟩ (by omega) (by omega)
        first
          | (rw [if_pos (by omega)] at es
             rw [es] at nx
             exact nx)
          | (rw [if_neg (by omega)] at es
             rw [es] at nx
             exact nx)
      · refine s_inc2 ok rfl rfl ?_
        refine s_inc3 ok rfl rfl ?_
        refine s_goto ok rfl ?_
        have es : sTen (lA p (-4) 3 t) (m + 1) = if (lA p (-4) 3 t) (m : Int) = 2000 then sTen (lA p (-4) 3 t) m else ((sTen (lA p (-4) 3 t) m).1 + 1, (sTen (lA p (-4) 3 t) m).2 + (lA p (-4) 3 t) (m : Int)) := rfl
        have nx := ih (m + 1) g47 r9 (pBa p t + (m : Int)) ⟨by omega, by omega⟩ ⟨fun q hq => (hg47.1 q hq).trans (i1 q hq), hg47.2, i3⟩ (by omega) (by omega)
        first
          | (rw [if_pos (by omega)] at es
             rw [es] at nx
             exact nx)
          | (rw [if_neg (by omega)] at es
             rw [es] at nx
             exact nx)
theorem ct_odds11 {E : zE} {d : Nat} {k : Nat → Nat × Nat} {h : Nat → Int → Int} {r : Nat → Int → Option Nat} {l : Nat → Nat → Int64} {n : Nat} {p : Int → Int} (hs : pS p) (hR : cR 4 5 6 7 8 9 10 11 12 13 k h r n p (-4)) {t : Int} (zt : zb t) : zCT E (d + 10) M_X11_odds [.ref 3, .int (iI (t))] (zJ (k, h, r, l, n)) 0 0 (zVx (.int (iI (if 0 ≤ t ∧ t < p 6 then (sTen (lA p (-4) 3 t) 10).1 else -1))) (fun s => ∃ g r9, s = zJ (k, g, r9, l, n) ∧ cT h g ∧ (∀ q, ¬ q = 16 → r9 q = r q))) := by
  have ok := ok_X11_odds
  refine zCT_of pn_X11_odds (Nat.le_of_ble_eq_true rfl) ?_
  show zGo _ _ _ _ _ _ 0 ([some (.ref 3), some (.int (iI (t))), none, none], [], _, _, _)
  have hp := hs.1
  have hft := hs.2.2.2.1
  have p60 := hp.2.2.2.2.2.2.2.2.2.2.2.2.1
  have p68 := hp.2.2.2.2.2.2.2.2.2.2.2.2.2.1
  have p00 := hp.1
  have p04 := hp.2.1
  have hf : ∀ q : Int, 0 ≤ q → q < p 6 → ¬ pFr p q = 4 := fun q q0 q1 => by have := pOf_gt hp q0 (by omega) (hft q q0 q1); omega
  refine s_ldA0 ok rfl ?_
  refine s_getF ok rfl rfl rfl rfl ?_
  refine s_ldI1 ok rfl ?_
  refine s_callV ok rfl rfl rfl rfl rfl rfl (ct_isPerson4 (cR4_n hR) p60 p68 zt) ?_
  refine s_if_eq ok rfl zif01 (fun c8 => ?_) (fun c8 => ?_)
  · refine s_ci ok rfl ?_
    exact s_retI ok rfl ⟨congrArg (fun z => some (Value.int (iI z))) (if_neg (fun q => zif_f c8 q)).symm, h, r, rfl, fun _ _ => rfl, fun _ _ => rfl⟩
  · have yt := zif_t c8
    have t0 := yt.1
    have t1 := yt.2
    obtain ⟨v8, hv8, wv8, h28, h38, h48⟩ := cR4_one hR t0 t1
    have b300 := hs.2.1 t t0 (by omega)
    obtain ⟨-, -, -, -, ⟨ba0, -⟩⟩ := hp.2.2.2.2.2.2.2.2.2.2.2.2.2.2.2.2 t t0 (by omega)
    refine s_ldA0 ok rfl ?_
    refine s_getF ok rfl rfl rfl rfl ?_
    refine s_ldA0 ok rfl ?_
    refine s_getF ok rfl rfl rfl rfl ?_
    refine s_callVvx ok rfl rfl rfl rfl rfl rfl (ct_become15_4 (d := d + 8) hR (by rw [cnP_4]; omega) p04) (fun σ21 hσ21 => ?_)
    obtain ⟨g21, r21, rfl, hg21⟩ := hσ21
    obtain ⟨f21, i3, hQ⟩ := hg21
    have i1 : cT h g21 := fun q hq => f21 q (by omega)
    have hQ2 : cR 15 16 17 18 19 20 21 22 23 24 k g21 r21 n (zp p (19 + 5 * t + 4) (p (19 + 5 * t + 4))) (-4) := by rw [zp_id]; exact hQ
    refine s_ci ok rfl ?_
    refine s_stI2 ok rfl rfl ?_
    refine s_ci ok rfl ?_
    refine s_stI3 ok rfl rfl ?_
    have K := lp_odds11 (E := E) (d := d) (k := k) (h := h) (r := r) (l := l) (n := n) hs hR t0 t1 11 0 g21 r21 (p (19 + 5 * t + 4)) ⟨ba0, by have : p (19 + 5 * t + 4) ≤ 300 := b300; omega⟩ ⟨i1, hQ2, i3⟩ (by omega) (by omega)
    rw [show (if 0 ≤ t ∧ t < p 6 then (sTen (lA p (-4) 3 t) 10).1 else -1) = (sTen (lA p (-4) 3 t) 10).1 from if_pos yt]
    exact K
