/-! the class: other bases -/
theorem zp_zp {p : Int → Int} {i u v : Int} : zp (zp p i u) i v = zp p i v := by
  funext j
  unfold zp
  by_cases e : j = i
  · rw [if_pos e, if_pos e]
  · rw [if_neg e, if_neg e, if_neg e]
theorem zp_id {p : Int → Int} {i : Int} : zp p i (p i) = p := by
  funext j
  unfold zp
  by_cases e : j = i
  · rw [if_pos e, e]
  · rw [if_neg e]
/-- all cells but the trial's and the trip's -/
def cT (h g : Nat → Int → Int) : Prop := ∀ q : Nat, q < 15 ∨ (24 < q ∧ q < 37) ∨ 54 < q → g q = h q
theorem ct_arrivalFrom {E : zE} {d : Nat} {k : Nat → Nat × Nat} {h : Nat → Int → Int} {r : Nat → Int → Option Nat} {l : Nat → Nat → Int64} {n : Nat} {q : Int → Int} (hq : pOK q) (hft : ∀ u : Int, 0 ≤ u → u < q 6 → pFr q u < pTo q u) (hR : cR 15 16 17 18 19 20 21 22 23 24 k h r n q (-4)) {t v : Int} (t0 : 0 ≤ t) (t1 : t < q 6) (v0 : 0 ≤ v) (v1 : v ≤ 360) : zCT E (d + 9) M_X11_arrivalFrom [.ref 3, .int (iI (t)), .int (iI (v))] (zJ (k, h, r, l, n)) 0 0 (zVx (.int (iI (dA (zp q (19 + 5 * t + 4) v) (-4) 3 t))) (zG k r l n (fun g => cT h g ∧ cR 15 16 17 18 19 20 21 22 23 24 k g r n (zp q (19 + 5 * t + 4) v) (-4)))) := by
  have ok := ok_X11_arrivalFrom
  refine zCT_of pn_X11_arrivalFrom (Nat.le_of_ble_eq_true rfl) ?_
  show zGo _ _ _ _ _ _ 0 ([some (.ref 3), some (.int (iI (t))), some (.int (iI (v)))], [], _, _, _)
  have p68 := hq.2.2.2.2.2.2.2.2.2.2.2.2.2.1
  have p60 := hq.2.2.2.2.2.2.2.2.2.2.2.2.1
  have hp : pOK (zp q (19 + 5 * t + 4) v) := pOK_base hq t0 v0 v1
  have e6 : (zp q (19 + 5 * t + 4) v) 6 = q 6 := zp_ne (by omega)
  have eF : ∀ u : Int, pFr (zp q (19 + 5 * t + 4) v) u = pFr q u := fun u => zp_ne (by omega)
  have eT : ∀ u : Int, pTo (zp q (19 + 5 * t + 4) v) u = pTo q u := fun u => zp_ne (by omega)
  have hft : ∀ u : Int, 0 ≤ u → u < (zp q (19 + 5 * t + 4) v) 6 → pFr (zp q (19 + 5 * t + 4) v) u < pTo (zp q (19 + 5 * t + 4) v) u := fun u u0 u1 => by rw [eF, eT]; exact hft u u0 (by omega)
  have hf : ∀ u : Int, 0 ≤ u → u < (zp q (19 + 5 * t + 4) v) 6 → ¬ pFr (zp q (19 + 5 * t + 4) v) u = 4 := fun u u0 u1 => by have := pOf_gt hp u0 (by omega) (hft u u0 u1); omega
  have hR2 := cR15_base hR (x := t) (v := v) t0 hq.2.1
  rw [sg_4] at hR2
  refine s_ldA0 ok rfl ?_
  refine s_getF ok rfl rfl rfl rfl ?_
  refine s_getF ok rfl rfl rfl rfl ?_
  refine s_ldI1 ok rfl ?_
  refine s_ldI2 ok rfl ?_
  refine s_iast ok rfl (by exact rfl) (by exact rfl) (by omega) (by omega) (fun q => by cases q) ?_
  refine s_ldA0 ok rfl ?_
  refine s_getF ok rfl rfl rfl rfl ?_
  refine s_ldA0 ok rfl ?_
  refine s_getF ok rfl rfl rfl rfl ?_
  refine s_ci ok rfl ?_
  refine s_callVvx ok rfl rfl rfl rfl rfl rfl (ct_go15 (d := d) (h := zv h 19 t v) (p := zp q (19 + 5 * t + 4) v) (w := -4) (dd := 3) hp (Or.inr rfl) (Or.inl rfl) hf hR2) (fun σ19 hσ19 => ?_)
  obtain ⟨g19, rfl, hg19⟩ := hσ19
  obtain ⟨gf, -, gC, gT, gS⟩ := hg19
  have D := tD_of hp (Or.inl rfl) hft gT gS
  have e37 : g19 37 6 = (zp q (19 + 5 * t + 4) v) 6 := gC.1.trans cnP_4
  have hz44 : ∀ s : Int, 0 ≤ s → s < (zp q (19 + 5 * t + 4) v) 6 → zb (g19 44 s) := fun s s0 s1 => by
    rw [(tD_one D s0 s1).1]
    split
    · exact ⟨by omega, by omega⟩
    · exact (dN_ok (dd := 3) hp (w := -4) ⟨by omega, by omega⟩).2.1 s
  refine s_ldA0 ok rfl ?_
  refine s_getF ok rfl rfl rfl rfl ?_
  refine s_ldI1 ok rfl ?_
  refine s_callV ok rfl rfl rfl rfl rfl rfl (ct_arrivalOf t0 (by omega) (hz44 t t0 (by omega))) ?_
  have dA9 := (tD_a D (t := t) t0 (by rw [cnP_4]; omega)).1
  rw [sg_4] at dA9
  exact s_retI ok rfl ⟨congrArg (fun z => some (Value.int (iI z))) dA9, _, rfl, fun x hx => (gf x (by omega)).trans (zv_other (by omega)), cR15_trip hR2 gf⟩
theorem lp_slack11 {E : zE} {d : Nat} {k : Nat → Nat × Nat} {h : Nat → Int → Int} {r : Nat → Int → Option Nat} {l : Nat → Nat → Int64} {n : Nat} {p : Int → Int} (hs : pS p) (hR : cR 4 5 6 7 8 9 10 11 12 13 k h r n p (-4)) {t : Int} (t0 : 0 ≤ t) (t1 : t < p 6) : ∀ c : Nat, ∀ (m9 : Nat) (g : Nat → Int → Int) (r9 : Nat → Int → Option Nat) (x : Int), (0 ≤ x ∧ x ≤ 360) → cT h g ∧ cR 15 16 17 18 19 20 21 22 23 24 k g r9 n (zp p (19 + 5 * t + 4) x) (-4) ∧ (∀ q, ¬ q = 16 → r9 q = r q) → m9 < c → m9 ≤ 60 → zGo E (d + 10) M_X11_slack 0 0 (zVx (.int (iI (sSlk (lA p (-4) 3 t) ((lA p (-4) 3 t) 0) m9))) (fun s => ∃ g r9, s = zJ (k, g, r9, l, n) ∧ cT h g ∧ (∀ q, ¬ q = 16 → r9 q = r q))) 42 ([some (.ref 3), some (.int (iI (t))), some (.int (iI ((lA p (-4) 3 t) 0))), some (.int (iI ((m9 : Int))))], [], zJ (k, g, r9, l, n), 0, 0) := by
  have ok := ok_X11_slack
  intro c
  induction c with
  | zero =>
    intros
    omega
  | succ c ih =>
    intro m9 g r9 x ⟨x0, x1⟩ ⟨i1, i2, i3⟩ g1 g2
    have hp := hs.1
    have hft := hs.2.2.2.1
    have p60 := hp.2.2.2.2.2.2.2.2.2.2.2.2.1
    have p68 := hp.2.2.2.2.2.2.2.2.2.2.2.2.2.1
    have p00 := hp.1
    have p04 := hp.2.1
    have hf : ∀ q : Int, 0 ≤ q → q < p 6 → ¬ pFr p q = 4 := fun q q0 q1 => by have := pOf_gt hp q0 (by omega) (hft q q0 q1); omega
    obtain ⟨v8, hv8, wv8, h28, h38, h48⟩ := cR4_one hR t0 t1
    have b300 := hs.2.1 t t0 (by omega)
    obtain ⟨-, -, -, -, ⟨ba0, -⟩⟩ := hp.2.2.2.2.2.2.2.2.2.2.2.2.2.2.2.2 t t0 (by omega)
    refine s_ldI3 ok rfl ?_
    refine s_if_le ok rfl ⟨by omega, by omega⟩ (fun c43 => ?_) (fun c43 => ?_)
    · refine s_ci ok rfl ?_
      have e0 : m9 = 0 := by omega
      subst e0
      exact s_retI ok rfl ⟨rfl, g, r9, rfl, i1, i3⟩
    · obtain ⟨m, rfl⟩ : ∃ j, m9 = j + 1 := ⟨m9 - 1, by omega⟩
      refine s_ldA0 ok rfl ?_
      refine s_ldI1 ok rfl ?_
      refine s_ldA0 ok rfl ?_
      refine s_getF ok rfl rfl rfl rfl ?_
      refine s_getF ok rfl rfl rfl rfl ?_
      refine s_ldI1 ok rfl ?_
      refine s_iald ok rfl (by exact rfl) (by exact rfl) (by omega) (by omega) ?_
      have hq9 : pOK (zp p (19 + 5 * t + 4) x) := pOK_base hp t0 x0 x1
      have af := ct_arrivalFrom (E := E) (d := d) (k := k) (h := g) (r := r9) (l := l) (n := n) (q := zp p (19 + 5 * t + 4) x) hq9 (fun u u0 u1 => by
        rw [show pFr (zp p (19 + 5 * t + 4) x) u = pFr p u from zp_ne (by omega), show pTo (zp p (19 + 5 * t + 4) x) u = pTo p u from zp_ne (by omega)]
        exact hft u u0 (by rw [show (zp p (19 + 5 * t + 4) x) 6 = p 6 from zp_ne (by omega)] at u1; exact u1)) i2 (t := t) (v := pBa p t + ((m + 1 : Nat) : Int)) t0 (by rw [show (zp p (19 + 5 * t + 4) x) 6 = p 6 from zp_ne (by omega)]; exact t1) (by omega) (by omega)
      rw [zp_zp] at af
      rw [show g 8 t = pBa p t from (congrFun (i1 8 (by omega)) t).trans h48]
      refine s_ldI3 ok rfl ?_
      refine s_add ok rfl ?_
      refine s_callVx ok rfl rfl rfl rfl rfl rfl af (fun σ59 hσ59 => ?_)
      obtain ⟨g59, rfl, hg59⟩ := hσ59
      rw [show dA (zp p (19 + 5 * t + 4) (pBa p t + ((m + 1 : Nat) : Int))) (-4) 3 t = lA p (-4) 3 t ((m + 1 : Nat) : Int) from rfl]
      refine s_ldI2 ok rfl ?_
      refine s_c_gt ok rfl (lA_zb hp ⟨by omega, by omega⟩ t0 (by omega) b300 (by omega) (by omega)).1 (lA_zb hp ⟨by omega, by omega⟩ t0 (by omega) b300 (by omega) (by omega)).1 (fun c63 => ?_) (fun c63 => ?_)
      · refine s_inc3 ok rfl rfl ?_
        refine s_goto ok rfl ?_
        rw [show ((m + 1 : Nat) : Int) + -1 = (m : Int) by omega]
        have es : sSlk (lA p (-4) 3 t) ((lA p (-4) 3 t) 0) (m + 1) = if (lA p (-4) 3 t) ((m : Int) + 1) ≤ (lA p (-4) 3 t) 0 then (m : Int) + 1 else sSlk (lA p (-4) 3 t) ((lA p (-4) 3 t) 0) m := rfl
        rw [if_neg (by have : (lA p (-4) 3 t) ((m : Int) + 1) = (lA p (-4) 3 t) ((m + 1 : Nat) : Int) := rfl; omega)] at es
        rw [es]
        exact ih m g59 r9 (pBa p t + ((m + 1 : Nat) : Int)) ⟨by omega, by omega⟩ ⟨fun q hq => (hg59.1 q hq).trans (i1 q hq), hg59.2, i3⟩ (by omega) (by omega)
      · refine s_ldI3 ok rfl ?_
        have es : sSlk (lA p (-4) 3 t) ((lA p (-4) 3 t) 0) (m + 1) = if (lA p (-4) 3 t) ((m : Int) + 1) ≤ (lA p (-4) 3 t) 0 then (m : Int) + 1 else sSlk (lA p (-4) 3 t) ((lA p (-4) 3 t) 0) m := rfl
        rw [if_pos (by have : (lA p (-4) 3 t) ((m : Int) + 1) = (lA p (-4) 3 t) ((m + 1 : Nat) : Int) := rfl; omega)] at es
        exact s_retI ok rfl ⟨congrArg (fun z => some (Value.int (iI z))) (es.symm ▸ rfl), g59, r9, rfl, fun q hq => (hg59.1 q hq).trans (i1 q hq), i3⟩
