/-! the class: whose seat it was -/
theorem cR4_T {k : Nat → Nat × Nat} {g h : Nat → Int → Int} {r r9 : Nat → Int → Option Nat} {n : Nat} {p : Int → Int} {w : Int} (c : cR 4 5 6 7 8 9 10 11 12 13 k h r n p w) (f : cT h g) (e : r9 5 = r 5) : cR 4 5 6 7 8 9 10 11 12 13 k g r9 n p w := by
  obtain ⟨r0, r1, r2, r3, r4, r5⟩ := c
  refine ⟨?_, fun t t0 t1 => ?_, fun t t0 t1 => ?_, ?_, ?_, ?_⟩
  · rw [f 4 (by omega)]; exact r0
  · obtain ⟨v, v1, v2, v3⟩ := r1 t t0 t1
    refine ⟨v, by rw [e]; exact v1, wk_fr v2 (fW_fix fun q hq => f q (by omega)), ?_⟩
    rw [f 6 (by omega), f 7 (by omega), f 8 (by omega)]
    exact v3
  · rw [e]
    exact r2 t t0 t1
  · rw [f 9 (by omega), f 10 (by omega), f 11 (by omega)]; exact r3
  · rw [f 11 (by omega)]; exact r4
  · rw [f 12 (by omega), f 13 (by omega)]; exact r5
theorem lp_whose11 {E : zE} {d : Nat} {k : Nat → Nat × Nat} {h : Nat → Int → Int} {r : Nat → Int → Option Nat} {l : Nat → Nat → Int64} {n : Nat} {p : Int → Int} (hs : pS p) (hR : cR 4 5 6 7 8 9 10 11 12 13 k h r n p (-4)) {t : Int} (t0 : 0 ≤ t) (t1 : t < p 6) : ∀ c : Nat, ∀ (m : Nat) (g : Nat → Int → Int) (r9 : Nat → Int → Option Nat), cT h g ∧ (∀ q, ¬ q = 16 → r9 q = r q) → (p 6).toNat < m + c → m ≤ (p 6).toNat → zGo E (d + 10) M_X11_whose 0 0 (zVx (.int (sWh (fun o => dA p o 3 t) (dA p (-4) 3 t) t (p 6).toNat)) (fun s => ∃ g r9, s = zJ (k, g, r9, l, n) ∧ cT h g ∧ (∀ q, ¬ q = 16 → r9 q = r q))) 39 ([some (.ref 3), some (.int (iI (t))), some (.int (iI ((dA p (-4) 3 t)))), some (.int (sWh (fun o => dA p o 3 t) (dA p (-4) 3 t) t m)), some (.int (iI ((m : Int))))], [], zJ (k, g, r9, l, n), 0, 0) := by
  have ok := ok_X11_whose
  intro c
  induction c with
  | zero =>
    intros
    omega
  | succ c ih =>
    intro m g r9 ⟨i1, i3⟩ g1 g2
    have hp := hs.1
    have hft := hs.2.2.2.1
    have p60 := hp.2.2.2.2.2.2.2.2.2.2.2.2.1
    have p68 := hp.2.2.2.2.2.2.2.2.2.2.2.2.2.1
    have p00 := hp.1
    have p04 := hp.2.1
    have hf : ∀ q : Int, 0 ≤ q → q < p 6 → ¬ pFr p q = 4 := fun q q0 q1 => by have := pOf_gt hp q0 (by omega) (hft q q0 q1); omega
    refine s_ldI4 ok rfl ?_
    refine s_ldA0 ok rfl ?_
    refine s_getF ok rfl rfl rfl rfl ?_
    refine s_getJ 0 ok rfl rfl rfl rfl ?_
    rw [show g 4 0 = p 6 from (congrFun (i1 4 (by omega)) 0).trans (cR4_n hR)]
    refine s_c_ge ok rfl ⟨by omega, by omega⟩ ⟨by omega, by omega⟩ (fun c48 => ?_) (fun c48 => ?_)
    · refine s_ldI3 ok rfl ?_
      have em : m = (p 6).toNat := by omega
      subst em
      exact s_retI ok rfl ⟨rfl, g, r9, rfl, i1, i3⟩
    · refine s_ldI4 ok rfl ?_
      refine s_ldI1 ok rfl ?_
      refine s_c_eq ok rfl ⟨by omega, by omega⟩ ⟨by omega, by omega⟩ (fun c54 => ?_) (fun c54 => ?_)
      · refine s_goto ok rfl ?_
        refine s_inc4 ok rfl rfl ?_
        refine s_goto ok rfl ?_
        have es : sWh (fun o => dA p o 3 t) (dA p (-4) 3 t) t (m + 1) = if (m : Int) = t then sWh (fun o => dA p o 3 t) (dA p (-4) 3 t) t m else sWh (fun o => dA p o 3 t) (dA p (-4) 3 t) t m ||| (if dA p (m : Int) 3 t < (dA p (-4) 3 t) then iI 1 <<< (iI (m : Int) &&& 31) else iI 0) := rfl
        first
          | (rw [if_pos c54] at es
             have nx := ih (m + 1) g r9 ⟨i1, i3⟩ (by omega) (by omega)
             rw [es] at nx
             exact nx)
          | (rw [if_neg c54, if_pos (show dA p (m : Int) 3 t < (dA p (-4) 3 t) from c113)] at es
             have nx := ih (m + 1) g89 r77 ⟨J1, J3⟩ (by omega) (by omega)
             rw [es] at nx
             exact nx)
          | (have c : ¬ dA p (m : Int) 3 t < (dA p (-4) 3 t) := by
               have : (dA p (-4) 3 t) ≤ dA p (m : Int) 3 t := c113
               omega
             rw [if_neg c54, if_neg c, show iI 0 = (0 : Int32) from rfl, Int32.or_zero] at es
             have nx := ih (m + 1) g89 r77 ⟨J1, J3⟩ (by omega) (by omega)
             rw [es] at nx
             exact nx)
      · refine s_ldA0 ok rfl ?_
        refine s_getF ok rfl rfl rfl rfl ?_
        refine s_ldA0 ok rfl ?_
        refine s_getF ok rfl rfl rfl rfl ?_
        refine s_callVvx ok rfl rfl rfl rfl rfl rfl (ct_become15_4 (d := d + 8) (cR4_T hR i1 (i3 5 (by omega))) (by rw [cnP_4]; omega) p04) (fun σ68 hσ68 => ?_)
        obtain ⟨g68, r68, rfl, f68, j68, hQ68⟩ := hσ68
        refine s_ldA0 ok rfl ?_
        refine s_getF ok rfl rfl rfl rfl ?_
        refine s_ldI4 ok rfl ?_
        refine s_callVvx ok rfl rfl rfl rfl rfl rfl (ct_drop15 (d := d + 7) hQ68 (t := (m : Int)) (by omega) (by omega) p68) (fun σ77 hσ77 => ?_)
        obtain ⟨g77, r77, rfl, f77, j77, hQ77⟩ := hσ77
        refine s_ldA0 ok rfl ?_
        refine s_getF ok rfl rfl rfl rfl ?_
        refine s_ldA0 ok rfl ?_
        refine s_getF ok rfl rfl rfl rfl ?_
        refine s_ci ok rfl ?_
        refine s_callVvx ok rfl rfl rfl rfl rfl rfl (ct_go15 (d := d + 1) (p := p) (w := (m : Int)) (dd := 3) hp (Or.inr rfl) (Or.inr ⟨by omega, by omega⟩) hf hQ77) (fun σ89 hσ89 => ?_)
        obtain ⟨g89, rfl, hg89⟩ := hσ89
        obtain ⟨gf89, -, gC89, gT89, gS89⟩ := hg89
        have D89 := tD_of hp (Or.inr ⟨by omega, by omega⟩) hft gT89 gS89
        have ec : cnP p (m : Int) = p 6 - 1 := if_pos ⟨by omega, by omega⟩
        have hz89 : ∀ s : Int, 0 ≤ s → s < p 6 - 1 → zb (g89 44 s) := fun s s0 s1 => by
          rw [(D89.1 s s0 (by omega)).1]
          split
          · exact ⟨by omega, by omega⟩
          · exact (dN_ok (dd := 3) hp (w := (m : Int)) ⟨by omega, by omega⟩).2.1 _
        have J1 : cT h g89 := fun q hq => (gf89 q (by omega)).trans ((f77 q (by omega)).trans ((f68 q (by omega)).trans (i1 q hq)))
        have J3 : ∀ q, ¬ q = 16 → r77 q = r q := fun q hq => (j77 q hq).trans ((j68 q hq).trans (i3 q hq))
        refine s_ldA0 ok rfl ?_
        refine s_getF ok rfl rfl rfl rfl ?_
        refine s_ldI4 ok rfl ?_
        refine s_ldI1 ok rfl ?_
        refine s_c_ge ok rfl ⟨by omega, by omega⟩ ⟨by omega, by omega⟩ (fun c99 => ?_) (fun c99 => ?_)
        · refine s_ldI1 ok rfl ?_
          refine s_callV ok rfl rfl rfl rfl rfl rfl (ct_arrivalOf (by omega) (by omega) (hz89 _ (by omega) (by omega))) ?_
          first
            | rw [show tA g89 t = dA p (m : Int) 3 t from (tD_a D89 (t := t) t0 (by omega)).1.trans (congrArg (zAr (dN p (m : Int) 3)) (if_neg (by omega)))]
            | rw [show tA g89 (t - 1) = dA p (m : Int) 3 t from (tD_a D89 (t := t - 1) (by omega) (by omega)).1.trans (congrArg (zAr (dN p (m : Int) 3)) ((if_pos ⟨by omega, by omega⟩).trans (by omega)))]
          refine s_ldI2 ok rfl ?_
          refine s_c_ge ok rfl (dA_zb hp ⟨by omega, by omega⟩) (dA_zb hp ⟨by omega, by omega⟩) (fun c113 => ?_) (fun c113 => ?_)
          · refine s_inc4 ok rfl rfl ?_
            refine s_goto ok rfl ?_
            have es : sWh (fun o => dA p o 3 t) (dA p (-4) 3 t) t (m + 1) = if (m : Int) = t then sWh (fun o => dA p o 3 t) (dA p (-4) 3 t) t m else sWh (fun o => dA p o 3 t) (dA p (-4) 3 t) t m ||| (if dA p (m : Int) 3 t < (dA p (-4) 3 t) then iI 1 <<< (iI (m : Int) &&& 31) else iI 0) := rfl
            first
              | (rw [if_pos c54] at es
                 have nx := ih (m + 1) g r9 ⟨i1, i3⟩ (by omega) (by omega)
                 rw [es] at nx
                 exact nx)
              | (rw [if_neg c54, if_pos (show dA p (m : Int) 3 t < (dA p (-4) 3 t) from c113)] at es
                 have nx := ih (m + 1) g89 r77 ⟨J1, J3⟩ (by omega) (by omega)
                 rw [es] at nx
                 exact nx)
              | (have c : ¬ dA p (m : Int) 3 t < (dA p (-4) 3 t) := by
                   have : (dA p (-4) 3 t) ≤ dA p (m : Int) 3 t := c113
                   omega
                 rw [if_neg c54, if_neg c, show iI 0 = (0 : Int32) from rfl, Int32.or_zero] at es
                 have nx := ih (m + 1) g89 r77 ⟨J1, J3⟩ (by omega) (by omega)
                 rw [es] at nx
                 exact nx)
          · refine s_ldI3 ok rfl ?_
            refine s_ci ok rfl ?_
            refine s_ldI4 ok rfl ?_
            refine s_bin ok rfl (by rfl) ?_
            refine s_bin ok rfl (by rfl) ?_
            refine s_stI3 ok rfl rfl ?_
            refine s_inc4 ok rfl rfl ?_
            refine s_goto ok rfl ?_
            have es : sWh (fun o => dA p o 3 t) (dA p (-4) 3 t) t (m + 1) = if (m : Int) = t then sWh (fun o => dA p o 3 t) (dA p (-4) 3 t) t m else sWh (fun o => dA p o 3 t) (dA p (-4) 3 t) t m ||| (if dA p (m : Int) 3 t < (dA p (-4) 3 t) then iI 1 <<< (iI (m : Int) &&& 31) else iI 0) := rfl
            first
              | (rw [if_pos c54] at es
                 have nx := ih (m + 1) g r9 ⟨i1, i3⟩ (by omega) (by omega)
                 rw [es] at nx
                 exact nx)
              | (rw [if_neg c54, if_pos (show dA p (m : Int) 3 t < (dA p (-4) 3 t) from c113)] at es
                 have nx := ih (m + 1) g89 r77 ⟨J1, J3⟩ (by omega) (by omega)
                 rw [es] at nx
                 exact nx)
              | (have c : ¬ dA p (m : Int) 3 t < (dA p (-4) 3 t) := by
                   have : (dA p (-4) 3 t) ≤ dA p (m : Int) 3 t := c113
                   omega
                 rw [if_neg c54, if_neg c, show iI 0 = (0 : Int32) from rfl, Int32.or_zero] at es
                 have nx := ih (m + 1) g89 r77 ⟨J1, J3⟩ (by omega) (by omega)
                 rw [es] at nx
                 exact nx)
        · refine s_ldI1 ok rfl ?_
          refine s_ci ok rfl ?_
          refine s_sub ok rfl ?_
          refine s_goto ok rfl ?_
          refine s_callV ok rfl rfl rfl rfl rfl rfl (ct_arrivalOf (by omega) (by omega) (hz89 _ (by omega) (by omega))) ?_
          first
            | rw [show tA g89 t = dA p (m : Int) 3 t from (tD_a D89 (t := t) t0 (by omega)).1.trans (congrArg (zAr (dN p (m : Int) 3)) (if_neg (by omega)))]
            | rw [show tA g89 (t - 1) = dA p (m : Int) 3 t from (tD_a D89 (t := t - 1) (by omega) (by omega)).1.trans (congrArg (zAr (dN p (m : Int) 3)) ((if_pos ⟨by omega, by omega⟩).trans (by omega)))]
          refine s_ldI2 ok rfl ?_
          refine s_c_ge ok rfl (dA_zb hp ⟨by omega, by omega⟩) (dA_zb hp ⟨by omega, by omega⟩) (fun c113 => ?_) (fun c113 => ?_)
          · refine s_inc4 ok rfl rfl ?_
            refine s_goto ok rfl ?_
            have es : sWh (fun o => dA p o 3 t) (dA p (-4) 3 t) t (m + 1) = if (m : Int) = t then sWh (fun o => dA p o 3 t) (dA p (-4) 3 t) t m else sWh (fun o => dA p o 3 t) (dA p (-4) 3 t) t m ||| (if dA p (m : Int) 3 t < (dA p (-4) 3 t) then iI 1 <<< (iI (m : Int) &&& 31) else iI 0) := rfl
            first
              | (rw [if_pos c54] at es
                 have nx := ih (m + 1) g r9 ⟨i1, i3⟩ (by omega) (by omega)
                 rw [es] at nx
                 exact nx)
              | (rw [if_neg c54, if_pos (show dA p (m : Int) 3 t < (dA p (-4) 3 t) from c113)] at es
                 have nx := ih (m + 1) g89 r77 ⟨J1, J3⟩ (by omega) (by omega)
                 rw [es] at nx
                 exact nx)
              | (have c : ¬ dA p (m : Int) 3 t < (dA p (-4) 3 t) := by
                   have : (dA p (-4) 3 t) ≤ dA p (m : Int) 3 t := c113
                   omega
                 rw [if_neg c54, if_neg c, show iI 0 = (0 : Int32) from rfl, Int32.or_zero] at es
                 have nx := ih (m + 1) g89 r77 ⟨J1, J3⟩ (by omega) (by omega)
                 rw [es] at nx
                 exact nx)
          · refine s_ldI3 ok rfl ?_
            refine s_ci ok rfl ?_
            refine s_ldI4 ok rfl ?_
            refine s_bin ok rfl (by rfl) ?_
            refine s_bin ok rfl (by rfl) ?_
            refine s_stI3 ok rfl rfl ?_
            refine s_inc4 ok rfl rfl ?_
            refine s_goto ok rfl ?_
            have es : sWh (fun o => dA p o 3 t) (dA p (-4) 3 t) t (m + 1) = if (m : Int) = t then sWh (fun o => dA p o 3 t) (dA p (-4) 3 t) t m else sWh (fun o => dA p o 3 t) (dA p (-4) 3 t) t m ||| (if dA p (m : Int) 3 t < (dA p (-4) 3 t) then iI 1 <<< (iI (m : Int) &&& 31) else iI 0) := rfl
            first
              | (rw [if_pos c54] at es
                 have nx := ih (m + 1) g r9 ⟨i1, i3⟩ (by omega) (by omega)
                 rw [es] at nx
                 exact nx)
              | (rw [if_neg c54, if_pos (show dA p (m : Int) 3 t < (dA p (-4) 3 t) from c113)] at es
                 have nx := ih (m + 1) g89 r77 ⟨J1, J3⟩ (by omega) (by omega)
                 rw [es] at nx
                 exact nx)
              | (have c : ¬ dA p (m : Int) 3 t < (dA p (-4) 3 t) := by
                   have : (dA p (-4) 3 t) ≤ dA p (m : Int) 3 t := c113
                   omega
                 rw [if_neg c54, if_neg c, show iI 0 = (0 : Int32) from rfl, Int32.or_zero] at es
                 have nx := ih (m + 1) g89 r77 ⟨J1, J3⟩ (by omega) (by omega)
                 rw [es] at nx
                 exact nx)
theorem ct_whose11 {E : zE} {d : Nat} {k : Nat → Nat × Nat} {h : Nat → Int → Int} {r : Nat → Int → Option Nat} {l : Nat → Nat → Int64} {n : Nat} {p : Int → Int} (hs : pS p) (hR : cR 4 5 6 7 8 9 10 11 12 13 k h r n p (-4)) {t : Int} (zt : zb t) : zCT E (d + 10) M_X11_whose [.ref 3, .int (iI (t))] (zJ (k, h, r, l, n)) 0 0 (zVx (.int (if 0 ≤ t ∧ t < p 6 then sWh (fun o => dA p o 3 t) (dA p (-4) 3 t) t (p 6).toNat else iI (-1))) (fun s => ∃ g r9, s = zJ (k, g, r9, l, n) ∧ cT h g ∧ (∀ q, ¬ q = 16 → r9 q = r q))) := by
  have ok := ok_X11_whose
  refine zCT_of pn_X11_whose (Nat.le_of_ble_eq_true rfl) ?_
  show zGo _ _ _ _ _ _ 0 ([some (.ref 3), some (.int (iI (t))), none, none, none], [], _, _, _)
  have hp := hs.1
  have hft := hs.2.2.2.1
  have p60 := hp.2.2.2.2.2.2.2.2.2.2.2.2.1
  have p68 := hp.2.2.2.2.2.2.2.2.2.2.2.2.2.1
  have p00 := hp.1
  have p04 := hp.2.1
  have hf : ∀ q : Int, 0 ≤ q → q < p 6 → ¬ pFr p q = 4 := fun q q0 q1 => by have := pOf_gt hp q0 (by omega) (hft q q0 q1); omega
  refine s_ldA0 ok rfl ?_
  refine s_getF ok rfl rfl rfl rfl ?_
  refine s_ldI1 ok rfl ?_
  refine s_callV ok rfl rfl rfl rfl rfl rfl (ct_isPerson4 (cR4_n hR) p60 p68 zt) ?_
  refine s_if_eq ok rfl zif01 (fun c8 => ?_) (fun c8 => ?_)
  · refine s_ci ok rfl ?_
    exact s_retI ok rfl ⟨congrArg (fun z => some (Value.int z)) (if_neg (zif_f c8)).symm, h, r, rfl, fun _ _ => rfl, fun _ _ => rfl⟩
  · refine s_ldA0 ok rfl ?_
    refine s_getF ok rfl rfl rfl rfl ?_
    refine s_ldA0 ok rfl ?_
    refine s_getF ok rfl rfl rfl rfl ?_
    refine s_ci ok rfl ?_
    refine s_callVvx ok rfl rfl rfl rfl rfl rfl (ct_go4 (d := d + 1) (p := p) (w := -4) (dd := 3) hp (Or.inr rfl) (Or.inl rfl) hf hR) (fun σ22 hσ22 => ?_)
    obtain ⟨g22, rfl, hg22⟩ := hσ22
    have yt := zif_t c8
    obtain ⟨gf22, -, gC22, gT22, gS22⟩ := hg22
    have D22 := tD_of hp (Or.inl rfl) hft gT22 gS22
    have hz22 : zb (g22 44 t) := by
      rw [(tD_one D22 yt.1 yt.2).1]
      split
      · exact ⟨by omega, by omega⟩
      · exact (dN_ok (dd := 3) hp (w := -4) ⟨by omega, by omega⟩).2.1 t
    have xa := (tD_a D22 (t := t) yt.1 (by rw [cnP_4]; exact yt.2)).1
    rw [sg_4] at xa
    refine s_ldA0 ok rfl ?_
    refine s_getF ok rfl rfl rfl rfl ?_
    refine s_ldI1 ok rfl ?_
    refine s_callV ok rfl rfl rfl rfl rfl rfl (ct_arrivalOf yt.1 (by omega) hz22) ?_
    rw [show tA g22 t = (dA p (-4) 3 t) from xa]
    refine s_stI2 ok rfl rfl ?_
    refine s_ci ok rfl ?_
    refine s_stI3 ok rfl rfl ?_
    refine s_ci ok rfl ?_
    refine s_stI4 ok rfl rfl ?_
    rw [if_pos yt]
    exact lp_whose11 (E := E) (d := d) (k := k) (h := h) (r := r) (l := l) (n := n) hs hR yt.1 yt.2 ((p 6).toNat + 1) 0 g22 r ⟨fun q hq => gf22 q (by omega), fun _ _ => rfl⟩ (by omega) (by omega)
