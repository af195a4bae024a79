/-! the class: later -/
theorem lp_later11 {E : zE} {d : Nat} {k : Nat → Nat × Nat} {h : Nat → Int → Int} {r : Nat → Int → Option Nat} {l : Nat → Nat → Int64} {n : Nat} {p : Int → Int} (hs : pS p) (hR : cR 4 5 6 7 8 9 10 11 12 13 k h r n p (-4)) {t : Int} (t0 : 0 ≤ t) (t1 : t < p 6) {what : Int} (wz : zb what) : ∀ c : Nat, ∀ (m : Nat) (g : Nat → Int → Int) (r9 : Nat → Int → Option Nat) (x : Int) (u : Option Value), (0 ≤ x ∧ x ≤ 360) → znl u = true → cT h g ∧ cR 15 16 17 18 19 20 21 22 23 24 k g r9 n (zp p (19 + 5 * t + 4) x) (-4) ∧ (∀ q, ¬ q = 16 → r9 q = r q) → 60 < m + c → m ≤ 60 → zGo E (d + 10) M_X11_later 0 0 (zVx (.int (iI (if what = 0 then (sLat (lA p (-4) 3 t) 60).1 else (sLat (lA p (-4) 3 t) 60).2))) (fun s => ∃ g r9, s = zJ (k, g, r9, l, n) ∧ cT h g ∧ (∀ q, ¬ q = 16 → r9 q = r q))) 54 ([some (.ref 3), some (.int (iI (t))), some (.int (iI (what))), some (.int (iI ((sLat (lA p (-4) 3 t) m).1))), some (.int (iI ((sLat (lA p (-4) 3 t) m).2))), some (.int (iI ((m : Int) + 1))), u], [], zJ (k, g, r9, l, n), 0, 0) := by
  have ok := ok_X11_later
  intro c
  induction c with
  | zero =>
    intros
    omega
  | succ c ih =>
    intro m g r9 x u ⟨x0, x1⟩ hu9 ⟨i1, i2, i3⟩ g1 g2
    have hp := hs.1
    have hft := hs.2.2.2.1
    have p60 := hp.2.2.2.2.2.2.2.2.2.2.2.2.1
    have p68 := hp.2.2.2.2.2.2.2.2.2.2.2.2.2.1
    have p00 := hp.1
    have p04 := hp.2.1
    have hf : ∀ q : Int, 0 ≤ q → q < p 6 → ¬ pFr p q = 4 := fun q q0 q1 => by have := pOf_gt hp q0 (by omega) (hft q q0 q1); omega
    obtain ⟨v8, hv8, wv8, h28, h38, h48⟩ := cR4_one hR t0 t1
    have b300 := hs.2.1 t t0 (by omega)
    obtain ⟨-, -, -, -, ⟨ba0, -⟩⟩ := hp.2.2.2.2.2.2.2.2.2.2.2.2.2.2.2.2 t t0 (by omega)
    refine s_ldI5 ok rfl ?_
    refine s_ci ok rfl ?_
    refine s_c_gt ok rfl ⟨by omega, by omega⟩ ⟨by omega, by omega⟩ (fun c58 => ?_) (fun c58 => ?_)
    · refine s_ldI2 ok rfl ?_
      refine s_if_eq ok rfl wz (fun c101 => ?_) (fun c101 => ?_)
      · refine s_ldI3 ok rfl ?_
        refine s_goto ok rfl ?_
        have em : m = 60 := by omega
        subst em
        first
          | exact s_retI ok rfl ⟨congrArg (fun z => some (Value.int (iI z))) (if_pos c101).symm, g, r9, rfl, i1, i3⟩
          | exact s_retI ok rfl ⟨congrArg (fun z => some (Value.int (iI z))) (if_neg c101).symm, g, r9, rfl, i1, i3⟩
      · refine s_ldI4 ok rfl ?_
        have em : m = 60 := by omega
        subst em
        first
          | exact s_retI ok rfl ⟨congrArg (fun z => some (Value.int (iI z))) (if_pos c101).symm, g, r9, rfl, i1, i3⟩
          | exact s_retI ok rfl ⟨congrArg (fun z => some (Value.int (iI z))) (if_neg c101).symm, g, r9, rfl, i1, i3⟩
    · have sb := sLat_in m (A := lA p (-4) 3 t) (fun j j0 j1 => (lA_zb hp ⟨by omega, by omega⟩ t0 (by omega) b300 j0 (by omega)).1)
      refine s_ldA0 ok rfl ?_
      refine s_ldI1 ok rfl ?_
      refine s_ldA0 ok rfl ?_
      refine s_getF ok rfl rfl rfl rfl ?_
      refine s_getF ok rfl rfl rfl rfl ?_
      refine s_ldI1 ok rfl ?_
      refine s_iald ok rfl (by exact rfl) (by exact rfl) (by omega) (by omega) ?_
      have hq9 : pOK (zp p (19 + 5 * t + 4) x) := pOK_base hp t0 x0 x1
      have af := ct_arrivalFrom (E := E) (d := d) (k := k) (h := g) (r := r9) (l := l) (n := n) (q := zp p (19 + 5 * t + 4) x) hq9 (fun u u0 u1 => by
        rw [show pFr (zp p (19 + 5 * t + 4) x) u = pFr p u from zp_ne (by omega), show pTo (zp p (19 + 5 * t + 4) x) u = pTo p u from zp_ne (by omega)]
        exact hft u u0 (by rw [show (zp p (19 + 5 * t + 4) x) 6 = p 6 from zp_ne (by omega)] at u1; exact u1)) i2 (t := t) (v := pBa p t + ((m : Int) + 1)) t0 (by rw [show (zp p (19 + 5 * t + 4) x) 6 = p 6 from zp_ne (by omega)]; exact t1) (by omega) (by omega)
      rw [zp_zp] at af
      rw [show g 8 t = pBa p t from (congrFun (i1 8 (by omega)) t).trans h48]
      refine s_ldI5 ok rfl ?_
      refine s_add ok rfl ?_
      refine s_callVx ok rfl rfl rfl rfl rfl rfl af (fun σ75 hσ75 => ?_)
      obtain ⟨g75, rfl, hg75⟩ := hσ75
      rw [show dA (zp p (19 + 5 * t + 4) (pBa p t + ((m : Int) + 1))) (-4) 3 t = lA p (-4) 3 t ((m : Int) + 1) from rfl]
      refine s_stI6 ok rfl rfl ?_
      refine s_ldI6 ok rfl ?_
      refine s_ldI4 ok rfl ?_
      refine s_c_ge ok rfl (lA_zb hp ⟨by omega, by omega⟩ t0 (by omega) b300 (by omega) (by omega)).1 sb.2 (fun c84 => ?_) (fun c84 => ?_)
      · refine s_inc5 ok rfl rfl ?_
        refine s_goto ok rfl ?_
        have es : sLat (lA p (-4) 3 t) (m + 1) = if (lA p (-4) 3 t) ((m : Int) + 1) < (sLat (lA p (-4) 3 t) m).2 then ((m : Int) + 1, (lA p (-4) 3 t) ((m : Int) + 1)) else sLat (lA p (-4) 3 t) m := rfl
        have nx := ih (m + 1) g75 r9 (pBa p t + ((m : Int) + 1)) (some (.int (iI ((lA p (-4) 3 t) ((m : Int) + 1))))) ⟨by omega, by omega⟩ rfl ⟨fun q hq => (hg75.1 q hq).trans (i1 q hq), hg75.2, i3⟩ (by omega) (by omega)
        rw [show ((m + 1 : Nat) : Int) = (m : Int) + 1 from rfl] at nx
        first
          | (rw [if_pos (by omega)] at es
             rw [es] at nx
             exact nx)
          | (rw [if_neg (by omega)] at es
             rw [es] at nx
             exact nx)
      · refine s_ldI6 ok rfl ?_
        refine s_stI4 ok rfl rfl ?_
        refine s_ldI5 ok rfl ?_
        refine s_stI3 ok rfl rfl ?_
        refine s_inc5 ok rfl rfl ?_
        refine s_goto ok rfl ?_
        have es : sLat (lA p (-4) 3 t) (m + 1) = if (lA p (-4) 3 t) ((m : Int) + 1) < (sLat (lA p (-4) 3 t) m).2 then ((m : Int) + 1, (lA p (-4) 3 t) ((m : Int) + 1)) else sLat (lA p (-4) 3 t) m := rfl
        have nx := ih (m + 1) g75 r9 (pBa p t + ((m : Int) + 1)) (some (.int (iI ((lA p (-4) 3 t) ((m : Int) + 1))))) ⟨by omega, by omega⟩ rfl ⟨fun q hq => (hg75.1 q hq).trans (i1 q hq), hg75.2, i3⟩ (by omega) (by omega)
        rw [show ((m + 1 : Nat) : Int) = (m : Int) + 1 from rfl] at nx
        first
          | (rw [if_pos (by omega)] at es
             rw [es] at nx
             exact nx)
          | (rw [if_neg (by omega)] at es
             rw [es] at nx
             exact nx)
theorem ct_later11 {E : zE} {d : Nat} {k : Nat → Nat × Nat} {h : Nat → Int → Int} {r : Nat → Int → Option Nat} {l : Nat → Nat → Int64} {n : Nat} {p : Int → Int} (hs : pS p) (hR : cR 4 5 6 7 8 9 10 11 12 13 k h r n p (-4)) {t what : Int} (zt : zb t) (zw : zb what) : zCT E (d + 10) M_X11_later [.ref 3, .int (iI (t)), .int (iI (what))] (zJ (k, h, r, l, n)) 0 0 (zVx (.int (iI (if (0 ≤ t ∧ t < p 6) ∧ (0 ≤ what ∧ what ≤ 1) then (if what = 0 then (sLat (lA p (-4) 3 t) 60).1 else (sLat (lA p (-4) 3 t) 60).2) else -1))) (fun s => ∃ g r9, s = zJ (k, g, r9, l, n) ∧ cT h g ∧ (∀ q, ¬ q = 16 → r9 q = r q))) := by
  have ok := ok_X11_later
  refine zCT_of pn_X11_later (Nat.le_of_ble_eq_true rfl) ?_
  show zGo _ _ _ _ _ _ 0 ([some (.ref 3), some (.int (iI (t))), some (.int (iI (what))), none, none, none, none], [], _, _, _)
  have hp := hs.1
  have hft := hs.2.2.2.1
  have p60 := hp.2.2.2.2.2.2.2.2.2.2.2.2.1
  have p68 := hp.2.2.2.2.2.2.2.2.2.2.2.2.2.1
  have p00 := hp.1
  have p04 := hp.2.1
  have hf : ∀ q : Int, 0 ≤ q → q < p 6 → ¬ pFr p q = 4 := fun q q0 q1 => by have := pOf_gt hp q0 (by omega) (hft q q0 q1); omega
  refine s_ldA0 ok rfl ?_
  refine s_getF ok rfl rfl rfl rfl ?_
  refine s_ldI1 ok rfl ?_
  refine s_callV ok rfl rfl rfl rfl rfl rfl (ct_isPerson4 (cR4_n hR) p60 p68 zt) ?_
  refine s_if_eq ok rfl zif01 (fun c8 => ?_) (fun c8 => ?_)
  · refine s_ci ok rfl ?_
    first
      | exact s_retI ok rfl ⟨congrArg (fun z => some (Value.int (iI z))) (if_neg (fun q => zif_f c8 q.1)).symm, h, r, rfl, fun _ _ => rfl, fun _ _ => rfl⟩
      | exact s_retI ok rfl ⟨congrArg (fun z => some (Value.int (iI z))) (if_neg (fun q => absurd q.2 (by omega))).symm, h, r, rfl, fun _ _ => rfl, fun _ _ => rfl⟩
  · refine s_ldI2 ok rfl ?_
    refine s_if_lt ok rfl zw (fun c12 => ?_) (fun c12 => ?_)
    · refine s_ci ok rfl ?_
      first
        | exact s_retI ok rfl ⟨congrArg (fun z => some (Value.int (iI z))) (if_neg (fun q => zif_f c8 q.1)).symm, h, r, rfl, fun _ _ => rfl, fun _ _ => rfl⟩
        | exact s_retI ok rfl ⟨congrArg (fun z => some (Value.int (iI z))) (if_neg (fun q => absurd q.2 (by omega))).symm, h, r, rfl, fun _ _ => rfl, fun _ _ => rfl⟩
    · refine s_ldI2 ok rfl ?_
      refine s_ci ok rfl ?_
      refine s_c_le ok rfl zw ⟨by omega, by omega⟩ (fun c17 => ?_) (fun c17 => ?_)
      · have yt := zif_t c8
        have t0 := yt.1
        have t1 := yt.2
        obtain ⟨v8, hv8, wv8, h28, h38, h48⟩ := cR4_one hR t0 t1
        have b300 := hs.2.1 t t0 (by omega)
        obtain ⟨-, -, -, -, ⟨ba0, -⟩⟩ := hp.2.2.2.2.2.2.2.2.2.2.2.2.2.2.2.2 t t0 (by omega)
        have yes : (0 ≤ t ∧ t < p 6) ∧ (0 ≤ what ∧ what ≤ 1) := ⟨yt, by omega, by omega⟩
        refine s_ldA0 ok rfl ?_
        refine s_getF ok rfl rfl rfl rfl ?_
        refine s_ldA0 ok rfl ?_
        refine s_getF ok rfl rfl rfl rfl ?_
        refine s_callVvx ok rfl rfl rfl rfl rfl rfl (ct_become15_4 (d := d + 8) hR (by rw [cnP_4]; omega) p04) (fun σ21 hσ21 => ?_)
        obtain ⟨g21, r21, rfl, hg21⟩ := hσ21
        obtain ⟨f21, i3, hQ⟩ := hg21
        have i1 : cT h g21 := fun q hq => f21 q (by omega)
        have hQ2 : cR 15 16 17 18 19 20 21 22 23 24 k g21 r21 n (zp p (19 + 5 * t + 4) (p (19 + 5 * t + 4))) (-4) := by rw [zp_id]; exact hQ
        refine s_ci ok rfl ?_
        refine s_stI3 ok rfl rfl ?_
        refine s_ldA0 ok rfl ?_
        refine s_ldI1 ok rfl ?_
        refine s_ldA0 ok rfl ?_
        refine s_getF ok rfl rfl rfl rfl ?_
        refine s_getF ok rfl rfl rfl rfl ?_
        refine s_ldI1 ok rfl ?_
        refine s_iald ok rfl (by exact rfl) (by exact rfl) (by omega) (by omega) ?_
        have hq9 : pOK (zp p (19 + 5 * t + 4) (p (19 + 5 * t + 4))) := by rw [zp_id]; exact hp
        have af := ct_arrivalFrom (E := E) (d := d) (k := k) (h := g21) (r := r21) (l := l) (n := n) (q := zp p (19 + 5 * t + 4) (p (19 + 5 * t + 4))) hq9 (fun u u0 u1 => by
          rw [zp_id] at u1 ⊢
          exact hft u u0 u1) hQ2 (t := t) (v := pBa p t + 0) t0 (by rw [zp_id]; exact t1) (by omega) (by omega)
        rw [zp_zp] at af
        rw [show g21 8 t = pBa p t from (congrFun (i1 8 (by omega)) t).trans h48, show pBa p t = pBa p t + 0 by omega]
        refine s_callVx ok rfl rfl rfl rfl rfl rfl af (fun σ46 hσ46 => ?_)
        obtain ⟨g46, rfl, hg46⟩ := hσ46
        rw [show dA (zp p (19 + 5 * t + 4) (pBa p t + 0)) (-4) 3 t = lA p (-4) 3 t 0 from rfl]
        refine s_stI4 ok rfl rfl ?_
        refine s_ci ok rfl ?_
        refine s_stI5 ok rfl rfl ?_
        have K := lp_later11 (E := E) (d := d) (k := k) (h := h) (r := r) (l := l) (n := n) hs hR t0 t1 zw 61 0 g46 r21 (pBa p t + 0) none ⟨by omega, by omega⟩ rfl ⟨fun q hq => (hg46.1 q hq).trans (i1 q hq), hg46.2, i3⟩ (by omega) (by omega)
        rw [if_pos yes]
        exact K
      · refine s_ci ok rfl ?_
        first
          | exact s_retI ok rfl ⟨congrArg (fun z => some (Value.int (iI z))) (if_neg (fun q => zif_f c8 q.1)).symm, h, r, rfl, fun _ _ => rfl, fun _ _ => rfl⟩
          | exact s_retI ok rfl ⟨congrArg (fun z => some (Value.int (iI z))) (if_neg (fun q => absurd q.2 (by omega))).symm, h, r, rfl, fun _ _ => rfl, fun _ _ => rfl⟩
