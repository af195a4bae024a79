/-! the class: bestLate -/
theorem lp_bestLate11 {E : zE} {d : Nat} {k : Nat → Nat × Nat} {h : Nat → Int → Int} {r : Nat → Int → Option Nat} {l : Nat → Nat → Int64} {n : Nat} {p : Int → Int} (hs : pS p) (hR : cR 4 5 6 7 8 9 10 11 12 13 k h r n p (-4)) : ∀ c : Nat, ∀ (m : Nat) (g : Nat → Int → Int) (r9 : Nat → Int → Option Nat) (x : Int) (u : Option Value), (0 ≤ x ∧ x ≤ 30) → znl u = true → cT h g ∧ cR 15 16 17 18 19 20 21 22 23 24 k g r9 n (zp p 2 x) (-4) ∧ (∀ q, ¬ q = 16 → r9 q = r q) → 31 < m + c → 1 ≤ m → m ≤ 31 → zGo E (d + 10) M_X11_bestLate 0 0 (zVx (.int (iI ((sBL (fun v => dMn (zp p 2 v) (-4) 3) 31).1))) (fun s => ∃ g r9, s = zJ (k, g, r9, l, n) ∧ cT h g ∧ (∀ q, ¬ q = 16 → r9 q = r q))) 21 ([some (.ref 3), some (.int (iI ((sBL (fun v => dMn (zp p 2 v) (-4) 3) m).1))), some (.int (iI ((sBL (fun v => dMn (zp p 2 v) (-4) 3) m).2))), some (.int (iI ((m : Int)))), u], [], zJ (k, g, r9, l, n), 0, 0) := by
  have ok := ok_X11_bestLate
  intro c
  induction c with
  | zero =>
    intros
    omega
  | succ c ih =>
    intro m g r9 x u ⟨x0, x1⟩ hu9 ⟨i1, i2, i3⟩ g1 g0 g2
    have hp := hs.1
    have hft := hs.2.2.2.1
    have p60 := hp.2.2.2.2.2.2.2.2.2.2.2.2.1
    have p68 := hp.2.2.2.2.2.2.2.2.2.2.2.2.2.1
    have p00 := hp.1
    have p04 := hp.2.1
    have hf : ∀ q : Int, 0 ≤ q → q < p 6 → ¬ pFr p q = 4 := fun q q0 q1 => by have := pOf_gt hp q0 (by omega) (hft q q0 q1); omega
    refine s_ldI3 ok rfl ?_
    refine s_ci ok rfl ?_
    refine s_c_gt ok rfl ⟨by omega, by omega⟩ ⟨by omega, by omega⟩ (fun c24 => ?_) (fun c24 => ?_)
    · refine s_ldI1 ok rfl ?_
      have em : m = 31 := by omega
      subst em
      exact s_retI ok rfl ⟨rfl, g, r9, rfl, i1, i3⟩
    · have bi : ∀ v : Int, 0 ≤ v → v ≤ 30 → 0 ≤ (fun v => dMn (zp p 2 v) (-4) 3) v ∧ (fun v => dMn (zp p 2 v) (-4) 3) v ≤ 8 := fun v v0 v1 => by
        have a := dMn_in (p := zp p 2 v) (w := -4) (dd := 3) (pOK_put hp (Or.inr (Or.inl ⟨rfl, v0, v1⟩)))
        have e : (zp p 2 v) 6 = p 6 := zp_ne (by omega)
        exact ⟨a.1, by show dMn (zp p 2 v) (-4) 3 ≤ 8; omega⟩
      have sb := sBL_in m (B := (fun v => dMn (zp p 2 v) (-4) 3)) (fun j j0 j1 => bi j j0 (by omega))
      have bm := bi m (by omega) (by omega)
      refine s_ldA0 ok rfl ?_
      have hq9 : pOK (zp p 2 x) := pOK_put hp (Or.inr (Or.inl ⟨rfl, x0, x1⟩))
      have af := ct_arrivingWithLate (E := E) (d := d) (k := k) (h := g) (r := r9) (l := l) (n := n) (q := zp p 2 x) hq9 (fun u u0 u1 => by
        rw [show pFr (zp p 2 x) u = pFr p u from zp_ne (by omega), show pTo (zp p 2 x) u = pTo p u from zp_ne (by omega)]
        exact hft u u0 (by rw [show (zp p 2 x) 6 = p 6 from zp_ne (by omega)] at u1; exact u1)) i2 (v := (m : Int)) (by omega) (by omega)
      rw [zp_zp] at af
      refine s_ldI3 ok rfl ?_
      refine s_callVx ok rfl rfl rfl rfl rfl rfl af (fun σ29 hσ29 => ?_)
      obtain ⟨g29, rfl, hg29⟩ := hσ29
      rw [show dMn (zp p 2 (m : Int)) (-4) 3 = (fun v => dMn (zp p 2 v) (-4) 3) (m : Int) from rfl]
      refine s_stI4 ok rfl rfl ?_
      refine s_ldI4 ok rfl ?_
      refine s_ldI2 ok rfl ?_
      refine s_c_le ok rfl ⟨by omega, by omega⟩ ⟨by omega, by omega⟩ (fun c37 => ?_) (fun c37 => ?_)
      · refine s_inc3 ok rfl rfl ?_
        refine s_goto ok rfl ?_
        have es : sBL (fun v => dMn (zp p 2 v) (-4) 3) (m + 1) = if (fun v => dMn (zp p 2 v) (-4) 3) (m : Int) ≤ (sBL (fun v => dMn (zp p 2 v) (-4) 3) m).2 then sBL (fun v => dMn (zp p 2 v) (-4) 3) m else ((m : Int), (fun v => dMn (zp p 2 v) (-4) 3) (m : Int)) := rfl
        have nx := ih (m + 1) g29 r9 (m : Int) (some (.int (iI ((fun v => dMn (zp p 2 v) (-4) 3) (m : Int))))) ⟨by omega, by omega⟩ rfl ⟨fun q hq => (hg29.1 q hq).trans (i1 q hq), hg29.2, i3⟩ (by omega) (by omega) (by omega)
        first
          | (rw [if_pos c37] at es
             rw [es] at nx
             exact nx)
          | (rw [if_neg (Int.not_le.mpr c37)] at es
             rw [es] at nx
             exact nx)
      · refine s_ldI4 ok rfl ?_
        refine s_stI2 ok rfl rfl ?_
        refine s_ldI3 ok rfl ?_
        refine s_stI1 ok rfl rfl ?_
        refine s_inc3 ok rfl rfl ?_
        refine s_goto ok rfl ?_
        have es : sBL (fun v => dMn (zp p 2 v) (-4) 3) (m + 1) = if (fun v => dMn (zp p 2 v) (-4) 3) (m : Int) ≤ (sBL (fun v => dMn (zp p 2 v) (-4) 3) m).2 then sBL (fun v => dMn (zp p 2 v) (-4) 3) m else ((m : Int), (fun v => dMn (zp p 2 v) (-4) 3) (m : Int)) := rfl
        have nx := ih (m + 1) g29 r9 (m : Int) (some (.int (iI ((fun v => dMn (zp p 2 v) (-4) 3) (m : Int))))) ⟨by omega, by omega⟩ rfl ⟨fun q hq => (hg29.1 q hq).trans (i1 q hq), hg29.2, i3⟩ (by omega) (by omega) (by omega)
        first
          | (rw [if_pos c37] at es
             rw [es] at nx
             exact nx)
          | (rw [if_neg (Int.not_le.mpr c37)] at es
             rw [es] at nx
             exact nx)
theorem ct_bestLate11 {E : zE} {d : Nat} {k : Nat → Nat × Nat} {h : Nat → Int → Int} {r : Nat → Int → Option Nat} {l : Nat → Nat → Int64} {n : Nat} {p : Int → Int} (hs : pS p) (hR : cR 4 5 6 7 8 9 10 11 12 13 k h r n p (-4)) : zCT E (d + 10) M_X11_bestLate [.ref 3] (zJ (k, h, r, l, n)) 0 0 (zVx (.int (iI ((sBL (fun v => dMn (zp p 2 v) (-4) 3) 31).1))) (fun s => ∃ g r9, s = zJ (k, g, r9, l, n) ∧ cT h g ∧ (∀ q, ¬ q = 16 → r9 q = r q))) := by
  have ok := ok_X11_bestLate
  refine zCT_of pn_X11_bestLate (Nat.le_of_ble_eq_true rfl) ?_
  show zGo _ _ _ _ _ _ 0 ([some (.ref 3), none, none, none, none], [], _, _, _)
  have hp := hs.1
  have hft := hs.2.2.2.1
  have p60 := hp.2.2.2.2.2.2.2.2.2.2.2.2.1
  have p68 := hp.2.2.2.2.2.2.2.2.2.2.2.2.2.1
  have p00 := hp.1
  have p04 := hp.2.1
  have hf : ∀ q : Int, 0 ≤ q → q < p 6 → ¬ pFr p q = 4 := fun q q0 q1 => by have := pOf_gt hp q0 (by omega) (hft q q0 q1); omega
  refine s_ldA0 ok rfl ?_
  refine s_getF ok rfl rfl rfl rfl ?_
  refine s_ldA0 ok rfl ?_
  refine s_getF ok rfl rfl rfl rfl ?_
  refine s_callVvx ok rfl rfl rfl rfl rfl rfl (ct_become15_4 (d := d + 8) hR (by rw [cnP_4]; omega) p04) (fun σ8 hσ8 => ?_)
  obtain ⟨g8, r8, rfl, hg8⟩ := hσ8
  obtain ⟨f8, i3, hQ⟩ := hg8
  refine s_ci ok rfl ?_
  refine s_stI1 ok rfl rfl ?_
  refine s_ldA0 ok rfl ?_
  refine s_ci ok rfl ?_
  refine s_callVx ok rfl rfl rfl rfl rfl rfl (ct_arrivingWithLate (d := d) (v := 0) hp hft hQ (by omega) (by omega)) (fun σ15 hσ15 => ?_)
  obtain ⟨g15, rfl, hg15⟩ := hσ15
  refine s_stI2 ok rfl rfl ?_
  refine s_ci ok rfl ?_
  refine s_stI3 ok rfl rfl ?_
  have bi : ∀ v : Int, 0 ≤ v → v ≤ 30 → 0 ≤ (fun v => dMn (zp p 2 v) (-4) 3) v ∧ (fun v => dMn (zp p 2 v) (-4) 3) v ≤ 8 := fun v v0 v1 => by
    have a := dMn_in (p := zp p 2 v) (w := -4) (dd := 3) (pOK_put hp (Or.inr (Or.inl ⟨rfl, v0, v1⟩)))
    have e : (zp p 2 v) 6 = p 6 := zp_ne (by omega)
    exact ⟨a.1, by show dMn (zp p 2 v) (-4) 3 ≤ 8; omega⟩
  have b0 := bi 0 (by omega) (by omega)
  have e1 : sBL (fun v => dMn (zp p 2 v) (-4) 3) 1 = (0, (fun v => dMn (zp p 2 v) (-4) 3) 0) := by
    show (if (fun v => dMn (zp p 2 v) (-4) 3) ((0 : Nat) : Int) ≤ -1 then ((0 : Int), (-1 : Int)) else (((0 : Nat) : Int), (fun v => dMn (zp p 2 v) (-4) 3) ((0 : Nat) : Int))) = _
    rw [if_neg (show ¬ (fun v => dMn (zp p 2 v) (-4) 3) ((0 : Nat) : Int) ≤ -1 from by have : (fun v => dMn (zp p 2 v) (-4) 3) ((0 : Nat) : Int) = (fun v => dMn (zp p 2 v) (-4) 3) 0 := rfl; omega)]
    rfl
  have K := lp_bestLate11 (E := E) (d := d) (k := k) (h := h) (r := r) (l := l) (n := n) hs hR 31 1 g15 r8 0 none ⟨by omega, by omega⟩ rfl ⟨fun q hq => (hg15.1 q hq).trans (f8 q (by omega)), hg15.2, i3⟩ (by omega) (by omega) (by omega)
  rw [e1] at K
  exact K
