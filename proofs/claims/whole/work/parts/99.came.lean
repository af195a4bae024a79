/-! the class: came -/
theorem lp_came11 {E : zE} {d : Nat} {k : Nat → Nat × Nat} {h : Nat → Int → Int} {r : Nat → Int → Option Nat} {l : Nat → Nat → Int64} {n : Nat} {p : Int → Int} (hs : pS p) (hR : cR 4 5 6 7 8 9 10 11 12 13 k h r n p (-4)) {t : Int} (t0 : 0 ≤ t) (t1 : t < p 6) {mi what : Int} (zm : zb mi) (zw : zb what) : ∀ c : Nat, ∀ (m : Nat) (g : Nat → Int → Int) (r9 : Nat → Int → Option Nat) (x : Int), (0 ≤ x ∧ x ≤ 360) → cT h g ∧ cR 15 16 17 18 19 20 21 22 23 24 k g r9 n (zp p (19 + 5 * t + 4) x) (-4) ∧ (∀ q, ¬ q = 16 → r9 q = r q) → 301 < m + c → m ≤ 301 → zGo E (d + 10) M_X11_came 0 0 (zVx (.int (iI (if what = 0 then (sCm (fun b => dA (zp p (19 + 5 * t + 4) b) (-4) 3 t) (fun m => 300 - (m : Int)) mi 301).1 else (sCm (fun b => dA (zp p (19 + 5 * t + 4) b) (-4) 3 t) (fun m => 300 - (m : Int)) mi 301).2))) (fun s => ∃ g r9, s = zJ (k, g, r9, l, n) ∧ cT h g ∧ (∀ q, ¬ q = 16 → r9 q = r q))) 56 ([some (.ref 3), some (.int (iI (t))), some (.int (iI (mi))), some (.int (iI (what))), some (.int (iI ((sCm (fun b => dA (zp p (19 + 5 * t + 4) b) (-4) 3 t) (fun m => 300 - (m : Int)) mi m).1))), some (.int (iI ((sCm (fun b => dA (zp p (19 + 5 * t + 4) b) (-4) 3 t) (fun m => 300 - (m : Int)) mi m).2))), some (.int (iI (300 - (m : Int))))], [], zJ (k, g, r9, l, n), 0, 0) := by
  have ok := ok_X11_came
  intro c
  induction c with
  | zero =>
    intros
    omega
  | succ c ih =>
    intro m g r9 x ⟨x0, x1⟩ ⟨i1, i2, i3⟩ g1 g2
    have hp := hs.1
    have hft := hs.2.2.2.1
    have p60 := hp.2.2.2.2.2.2.2.2.2.2.2.2.1
    have p68 := hp.2.2.2.2.2.2.2.2.2.2.2.2.2.1
    have p00 := hp.1
    have p04 := hp.2.1
    have hf : ∀ q : Int, 0 ≤ q → q < p 6 → ¬ pFr p q = 4 := fun q q0 q1 => by have := pOf_gt hp q0 (by omega) (hft q q0 q1); omega
    obtain ⟨v8, hv8, wv8, h28, h38, h48⟩ := cR4_one hR t0 t1
    have b300 := hs.2.1 t t0 (by omega)
    obtain ⟨-, -, -, -, ⟨ba0, -⟩⟩ := hp.2.2.2.2.2.2.2.2.2.2.2.2.2.2.2.2 t t0 (by omega)
    refine s_ldI6 ok rfl ?_
    refine s_if_lt ok rfl ⟨by omega, by omega⟩ (fun c58 => ?_) (fun c58 => ?_)
    · refine s_ldI3 ok rfl ?_
      refine s_if_eq ok rfl zw (fun c86 => ?_) (fun c86 => ?_)
      · refine s_ldI4 ok rfl ?_
        refine s_goto ok rfl ?_
        have em : m = 301 := by omega
        subst em
        first
          | exact s_retI ok rfl ⟨congrArg (fun z => some (Value.int (iI z))) (if_pos c86).symm, g, r9, rfl, i1, i3⟩
          | exact s_retI ok rfl ⟨congrArg (fun z => some (Value.int (iI z))) (if_neg c86).symm, g, r9, rfl, i1, i3⟩
      · refine s_ldI5 ok rfl ?_
        have em : m = 301 := by omega
        subst em
        first
          | exact s_retI ok rfl ⟨congrArg (fun z => some (Value.int (iI z))) (if_pos c86).symm, g, r9, rfl, i1, i3⟩
          | exact s_retI ok rfl ⟨congrArg (fun z => some (Value.int (iI z))) (if_neg c86).symm, g, r9, rfl, i1, i3⟩
    · have hq9 : pOK (zp p (19 + 5 * t + 4) x) := pOK_base hp t0 x0 x1
      have af := ct_arrivalFrom (E := E) (d := d) (k := k) (h := g) (r := r9) (l := l) (n := n) (q := zp p (19 + 5 * t + 4) x) hq9 (fun u u0 u1 => by
        rw [show pFr (zp p (19 + 5 * t + 4) x) u = pFr p u from zp_ne (by omega), show pTo (zp p (19 + 5 * t + 4) x) u = pTo p u from zp_ne (by omega)]
        exact hft u u0 (by rw [show (zp p (19 + 5 * t + 4) x) 6 = p 6 from zp_ne (by omega)] at u1; exact u1)) i2 (t := t) (v := 300 - (m : Int)) t0 (by rw [show (zp p (19 + 5 * t + 4) x) 6 = p 6 from zp_ne (by omega)]; exact t1) (by omega) (by omega)
      rw [zp_zp] at af
      have bA := dA_in (p := zp p (19 + 5 * t + 4) (300 - (m : Int))) (w := -4) (dd := 3) (t := t) (pOK_base hp t0 (by omega) (by omega)) ⟨by omega, by omega⟩
      refine s_ldA0 ok rfl ?_
      refine s_ldI1 ok rfl ?_
      refine s_ldI6 ok rfl ?_
      refine s_callVx ok rfl rfl rfl rfl rfl rfl af (fun σ65 hσ65 => ?_)
      obtain ⟨g65, rfl, hg65⟩ := hσ65
      refine s_ldI2 ok rfl ?_
      refine s_c_eq ok rfl ⟨by omega, by omega⟩ zm (fun c69 => ?_) (fun c69 => ?_)
      · refine s_inc4 ok rfl rfl ?_
        refine s_ldI6 ok rfl ?_
        refine s_stI5 ok rfl rfl ?_
        refine s_inc6 ok rfl rfl ?_
        refine s_goto ok rfl ?_
        have es : sCm (fun b => dA (zp p (19 + 5 * t + 4) b) (-4) 3 t) (fun m => 300 - (m : Int)) mi (m + 1) = if dA (zp p (19 + 5 * t + 4) (300 - (m : Int))) (-4) 3 t = mi then ((sCm (fun b => dA (zp p (19 + 5 * t + 4) b) (-4) 3 t) (fun m => 300 - (m : Int)) mi m).1 + 1, 300 - (m : Int)) else sCm (fun b => dA (zp p (19 + 5 * t + 4) b) (-4) 3 t) (fun m => 300 - (m : Int)) mi m := rfl
        have nx := ih (m + 1) g65 r9 (300 - (m : Int)) ⟨by omega, by omega⟩ ⟨fun q hq => (hg65.1 q hq).trans (i1 q hq), hg65.2, i3⟩ (by omega) (by omega)
        rw [show 300 - ((m + 1 : Nat) : Int) = 300 - (m : Int) + -1 by omega] at nx
        first
          | (rw [if_pos c69] at es
             rw [es] at nx
             exact nx)
          | (rw [if_neg c69] at es
             rw [es] at nx
             exact nx)
      · refine s_inc6 ok rfl rfl ?_
        refine s_goto ok rfl ?_
        have es : sCm (fun b => dA (zp p (19 + 5 * t + 4) b) (-4) 3 t) (fun m => 300 - (m : Int)) mi (m + 1) = if dA (zp p (19 + 5 * t + 4) (300 - (m : Int))) (-4) 3 t = mi then ((sCm (fun b => dA (zp p (19 + 5 * t + 4) b) (-4) 3 t) (fun m => 300 - (m : Int)) mi m).1 + 1, 300 - (m : Int)) else sCm (fun b => dA (zp p (19 + 5 * t + 4) b) (-4) 3 t) (fun m => 300 - (m : Int)) mi m := rfl
        have nx := ih (m + 1) g65 r9 (300 - (m : Int)) ⟨by omega, by omega⟩ ⟨fun q hq => (hg65.1 q hq).trans (i1 q hq), hg65.2, i3⟩ (by omega) (by omega)
        rw [show 300 - ((m + 1 : Nat) : Int) = 300 - (m : Int) + -1 by omega] at nx
        first
          | (rw [if_pos c69] at es
             rw [es] at nx
             exact nx)
          | (rw [if_neg c69] at es
             rw [es] at nx
             exact nx)
theorem ct_came11 {E : zE} {d : Nat} {k : Nat → Nat × Nat} {h : Nat → Int → Int} {r : Nat → Int → Option Nat} {l : Nat → Nat → Int64} {n : Nat} {p : Int → Int} (hs : pS p) (hR : cR 4 5 6 7 8 9 10 11 12 13 k h r n p (-4)) {t mi what : Int} (zt : zb t) (zm : zb mi) (zw : zb what) : zCT E (d + 10) M_X11_came [.ref 3, .int (iI (t)), .int (iI (mi)), .int (iI (what))] (zJ (k, h, r, l, n)) 0 0 (zVx (.int (iI (if (0 ≤ t ∧ t < p 6) ∧ (0 ≤ mi ∧ mi ≤ 2000) ∧ (0 ≤ what ∧ what ≤ 1) then (if what = 0 then (sCm (fun b => dA (zp p (19 + 5 * t + 4) b) (-4) 3 t) (fun m => 300 - (m : Int)) mi 301).1 else (sCm (fun b => dA (zp p (19 + 5 * t + 4) b) (-4) 3 t) (fun m => 300 - (m : Int)) mi 301).2) else -1))) (fun s => ∃ g r9, s = zJ (k, g, r9, l, n) ∧ cT h g ∧ (∀ q, ¬ q = 16 → r9 q = r q))) := by
  have ok := ok_X11_came
  refine zCT_of pn_X11_came (Nat.le_of_ble_eq_true rfl) ?_
  show zGo _ _ _ _ _ _ 0 ([some (.ref 3), some (.int (iI (t))), some (.int (iI (mi))), some (.int (iI (what))), none, none, none], [], _, _, _)
  have hp := hs.1
  have hft := hs.2.2.2.1
  have p60 := hp.2.2.2.2.2.2.2.2.2.2.2.2.1
  have p68 := hp.2.2.2.2.2.2.2.2.2.2.2.2.2.1
  have p00 := hp.1
  have p04 := hp.2.1
  have hf : ∀ q : Int, 0 ≤ q → q < p 6 → ¬ pFr p q = 4 := fun q q0 q1 => by have := pOf_gt hp q0 (by omega) (hft q q0 q1); omega
  refine s_ldA0 ok rfl ?_
  refine s_getF ok rfl rfl rfl rfl ?_
  refine s_ldI1 ok rfl ?_
  refine s_callV ok rfl rfl rfl rfl rfl rfl (ct_isPerson4 (cR4_n hR) p60 p68 zt) ?_
  refine s_if_eq ok rfl zif01 (fun c8 => ?_) (fun c8 => ?_)
  · refine s_ci ok rfl ?_
    first
      | exact s_retI ok rfl ⟨congrArg (fun z => some (Value.int (iI z))) (if_neg (fun q => zif_f c8 q.1)).symm, h, r, rfl, fun _ _ => rfl, fun _ _ => rfl⟩
      | exact s_retI ok rfl ⟨congrArg (fun z => some (Value.int (iI z))) (if_neg (fun q => absurd q.2.1 (by omega))).symm, h, r, rfl, fun _ _ => rfl, fun _ _ => rfl⟩
      | exact s_retI ok rfl ⟨congrArg (fun z => some (Value.int (iI z))) (if_neg (fun q => absurd q.2.2 (by omega))).symm, h, r, rfl, fun _ _ => rfl, fun _ _ => rfl⟩
  · refine s_ldI2 ok rfl ?_
    refine s_if_lt ok rfl zm (fun c12 => ?_) (fun c12 => ?_)
    · refine s_ci ok rfl ?_
      first
        | exact s_retI ok rfl ⟨congrArg (fun z => some (Value.int (iI z))) (if_neg (fun q => zif_f c8 q.1)).symm, h, r, rfl, fun _ _ => rfl, fun _ _ => rfl⟩
        | exact s_retI ok rfl ⟨congrArg (fun z => some (Value.int (iI z))) (if_neg (fun q => absurd q.2.1 (by omega))).symm, h, r, rfl, fun _ _ => rfl, fun _ _ => rfl⟩
        | exact s_retI ok rfl ⟨congrArg (fun z => some (Value.int (iI z))) (if_neg (fun q => absurd q.2.2 (by omega))).symm, h, r, rfl, fun _ _ => rfl, fun _ _ => rfl⟩
    · refine s_ldI2 ok rfl ?_
      refine s_ci ok rfl ?_
      refine s_c_gt ok rfl zm ⟨by omega, by omega⟩ (fun c19 => ?_) (fun c19 => ?_)
      · refine s_ci ok rfl ?_
        first
          | exact s_retI ok rfl ⟨congrArg (fun z => some (Value.int (iI z))) (if_neg (fun q => zif_f c8 q.1)).symm, h, r, rfl, fun _ _ => rfl, fun _ _ => rfl⟩
          | exact s_retI ok rfl ⟨congrArg (fun z => some (Value.int (iI z))) (if_neg (fun q => absurd q.2.1 (by omega))).symm, h, r, rfl, fun _ _ => rfl, fun _ _ => rfl⟩
          | exact s_retI ok rfl ⟨congrArg (fun z => some (Value.int (iI z))) (if_neg (fun q => absurd q.2.2 (by omega))).symm, h, r, rfl, fun _ _ => rfl, fun _ _ => rfl⟩
      · refine s_ldI3 ok rfl ?_
        refine s_if_lt ok rfl zw (fun c23 => ?_) (fun c23 => ?_)
        · refine s_ci ok rfl ?_
          first
            | exact s_retI ok rfl ⟨congrArg (fun z => some (Value.int (iI z))) (if_neg (fun q => zif_f c8 q.1)).symm, h, r, rfl, fun _ _ => rfl, fun _ _ => rfl⟩
            | exact s_retI ok rfl ⟨congrArg (fun z => some (Value.int (iI z))) (if_neg (fun q => absurd q.2.1 (by omega))).symm, h, r, rfl, fun _ _ => rfl, fun _ _ => rfl⟩
            | exact s_retI ok rfl ⟨congrArg (fun z => some (Value.int (iI z))) (if_neg (fun q => absurd q.2.2 (by omega))).symm, h, r, rfl, fun _ _ => rfl, fun _ _ => rfl⟩
        · refine s_ldI3 ok rfl ?_
          refine s_ci ok rfl ?_
          refine s_c_le ok rfl zw ⟨by omega, by omega⟩ (fun c28 => ?_) (fun c28 => ?_)
          · have yt := zif_t c8
            have t0 := yt.1
            have t1 := yt.2
            obtain ⟨v8, hv8, wv8, h28, h38, h48⟩ := cR4_one hR t0 t1
            have b300 := hs.2.1 t t0 (by omega)
            obtain ⟨-, -, -, -, ⟨ba0, -⟩⟩ := hp.2.2.2.2.2.2.2.2.2.2.2.2.2.2.2.2 t t0 (by omega)
            have yes : (0 ≤ t ∧ t < p 6) ∧ (0 ≤ mi ∧ mi ≤ 2000) ∧ (0 ≤ what ∧ what ≤ 1) := ⟨yt, ⟨by omega, by omega⟩, by omega, by omega⟩
            refine s_ldA0 ok rfl ?_
            refine s_getF ok rfl rfl rfl rfl ?_
            refine s_ldA0 ok rfl ?_
            refine s_getF ok rfl rfl rfl rfl ?_
            refine s_callVvx ok rfl rfl rfl rfl rfl rfl (ct_become15_4 (d := d + 8) hR (by rw [cnP_4]; omega) p04) (fun σ41 hσ41 => ?_)
            obtain ⟨g41, r41, rfl, hg41⟩ := hσ41
            obtain ⟨f41, i3, hQ⟩ := hg41
            have i1 : cT h g41 := fun q hq => f41 q (by omega)
            have hQ2 : cR 15 16 17 18 19 20 21 22 23 24 k g41 r41 n (zp p (19 + 5 * t + 4) (p (19 + 5 * t + 4))) (-4) := by rw [zp_id]; exact hQ
            refine s_ci ok rfl ?_
            refine s_stI4 ok rfl rfl ?_
            refine s_ci ok rfl ?_
            refine s_stI5 ok rfl rfl ?_
            refine s_ci ok rfl ?_
            refine s_stI6 ok rfl rfl ?_
            have K := lp_came11 (E := E) (d := d) (k := k) (h := h) (r := r) (l := l) (n := n) hs hR t0 t1 zm zw 302 0 g41 r41 (p (19 + 5 * t + 4)) ⟨ba0, by have : p (19 + 5 * t + 4) ≤ 300 := b300; omega⟩ ⟨i1, hQ2, i3⟩ (by omega) (by omega)
            rw [if_pos yes]
            exact K
          · refine s_ci ok rfl ?_
            first
              | exact s_retI ok rfl ⟨congrArg (fun z => some (Value.int (iI z))) (if_neg (fun q => zif_f c8 q.1)).symm, h, r, rfl, fun _ _ => rfl, fun _ _ => rfl⟩
              | exact s_retI ok rfl ⟨congrArg (fun z => some (Value.int (iI z))) (if_neg (fun q => absurd q.2.1 (by omega))).symm, h, r, rfl, fun _ _ => rfl, fun _ _ => rfl⟩
              | exact s_retI ok rfl ⟨congrArg (fun z => some (Value.int (iI z))) (if_neg (fun q => absurd q.2.2 (by omega))).symm, h, r, rfl, fun _ _ => rfl, fun _ _ => rfl⟩
