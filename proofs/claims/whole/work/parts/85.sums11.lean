/-! the class: together, sums -/
theorem ct_together11 {E : zE} {d : Nat} {k : Nat → Nat × Nat} {h : Nat → Int → Int} {r : Nat → Int → Option Nat} {l : Nat → Nat → Int64} {n : Nat} {p : Int → Int} (hs : pS p) (hR : cR 4 5 6 7 8 9 10 11 12 13 k h r n p (-4)) {a b : Int} (za : zb a) (zc : zb b) : zCT E (d + 9) M_X11_together [.ref 3, .int (iI (a)), .int (iI (b))] (zJ (k, h, r, l, n)) 0 0 (zVx (.int (iI (if (0 ≤ a ∧ a < p 6) ∧ (0 ≤ b ∧ b < p 6) ∧ ¬ a = b then (if dN p (-4) 3 69 a < 0 ∨ ¬ dN p (-4) 3 69 a = dN p (-4) 3 69 b then 0 else max 0 (min (dN p (-4) 3 71 a) (dN p (-4) 3 71 b) - max (dN p (-4) 3 70 a) (dN p (-4) 3 70 b))) else -1))) (zG k r l n (cF h))) := by
  have ok := ok_X11_together
  refine zCT_of pn_X11_together (Nat.le_of_ble_eq_true rfl) ?_
  show zGo _ _ _ _ _ _ 0 ([some (.ref 3), some (.int (iI (a))), some (.int (iI (b))), none, none], [], _, _, _)
  have hp := hs.1
  have hft := hs.2.2.2.1
  have p60 := hp.2.2.2.2.2.2.2.2.2.2.2.2.1
  have p68 := hp.2.2.2.2.2.2.2.2.2.2.2.2.2.1
  have p00 := hp.1
  have p04 := hp.2.1
  have hf : ∀ q : Int, 0 ≤ q → q < p 6 → ¬ pFr p q = 4 := fun q q0 q1 => by have := pOf_gt hp q0 (by omega) (hft q q0 q1); omega
  refine s_ldA0 ok rfl ?_
  refine s_getF ok rfl rfl rfl rfl ?_
  refine s_ldI1 ok rfl ?_
  refine s_callV ok rfl rfl rfl rfl rfl rfl (ct_isPerson4 (cR4_n hR) p60 p68 za) ?_
  refine s_if_eq ok rfl zif01 (fun c8 => ?_) (fun c8 => ?_)
  · refine s_ci ok rfl ?_
    first
      | exact s_retI ok rfl ⟨congrArg (fun z => some (Value.int (iI z))) (if_neg (fun q => zif_f c8 q.1)).symm, _, rfl, fun _ _ => rfl⟩
      | exact s_retI ok rfl ⟨congrArg (fun z => some (Value.int (iI z))) (if_neg (fun q => zif_f c19 q.2.1)).symm, _, rfl, fun _ _ => rfl⟩
      | exact s_retI ok rfl ⟨congrArg (fun z => some (Value.int (iI z))) (if_neg (fun q => q.2.2 c24)).symm, _, rfl, fun _ _ => rfl⟩
  · refine s_ldA0 ok rfl ?_
    refine s_getF ok rfl rfl rfl rfl ?_
    refine s_ldI2 ok rfl ?_
    refine s_callV ok rfl rfl rfl rfl rfl rfl (ct_isPerson4 (cR4_n hR) p60 p68 zc) ?_
    refine s_if_eq ok rfl zif01 (fun c19 => ?_) (fun c19 => ?_)
    · refine s_ci ok rfl ?_
      first
        | exact s_retI ok rfl ⟨congrArg (fun z => some (Value.int (iI z))) (if_neg (fun q => zif_f c8 q.1)).symm, _, rfl, fun _ _ => rfl⟩
        | exact s_retI ok rfl ⟨congrArg (fun z => some (Value.int (iI z))) (if_neg (fun q => zif_f c19 q.2.1)).symm, _, rfl, fun _ _ => rfl⟩
        | exact s_retI ok rfl ⟨congrArg (fun z => some (Value.int (iI z))) (if_neg (fun q => q.2.2 c24)).symm, _, rfl, fun _ _ => rfl⟩
    · refine s_ldI1 ok rfl ?_
      refine s_ldI2 ok rfl ?_
      refine s_c_eq ok rfl za zc (fun c24 => ?_) (fun c24 => ?_)
      · refine s_ci ok rfl ?_
        first
          | exact s_retI ok rfl ⟨congrArg (fun z => some (Value.int (iI z))) (if_neg (fun q => zif_f c8 q.1)).symm, _, rfl, fun _ _ => rfl⟩
          | exact s_retI ok rfl ⟨congrArg (fun z => some (Value.int (iI z))) (if_neg (fun q => zif_f c19 q.2.1)).symm, _, rfl, fun _ _ => rfl⟩
          | exact s_retI ok rfl ⟨congrArg (fun z => some (Value.int (iI z))) (if_neg (fun q => q.2.2 c24)).symm, _, rfl, fun _ _ => rfl⟩
      · have ya := zif_t c8
        have yb := zif_t c19
        have yes : (0 ≤ a ∧ a < p 6) ∧ (0 ≤ b ∧ b < p 6) ∧ ¬ a = b := ⟨ya, yb, c24⟩
        refine s_ldA0 ok rfl ?_
        refine s_getF ok rfl rfl rfl rfl ?_
        refine s_ldA0 ok rfl ?_
        refine s_getF ok rfl rfl rfl rfl ?_
        refine s_ci ok rfl ?_
        refine s_callVvx ok rfl rfl rfl rfl rfl rfl (ct_go4 (d := d) (p := p) (w := -4) (dd := 3) hp (Or.inr rfl) (Or.inl rfl) hf hR) (fun σ38 hσ38 => ?_)
        obtain ⟨g38, rfl, hg38⟩ := hσ38
        obtain ⟨gf, -, gC, gT, gS⟩ := hg38
        have D := tD_of hp (Or.inl rfl) hft gT gS
        have e37 : g38 37 6 = p 6 := gC.1.trans cnP_4
        have hz44 : ∀ t : Int, 0 ≤ t → t < p 6 → zb (g38 44 t) := fun t t0 t1 => by
          rw [(tD_one D t0 t1).1]
          split
          · exact ⟨by omega, by omega⟩
          · exact (dN_ok (dd := 3) hp (w := -4) ⟨by omega, by omega⟩).2.1 t
        obtain ⟨d1, d2, d3, d4, d5, d6, d7, d8, d9⟩ := tD_one D ya.1 ya.2
        obtain ⟨f1, f2, f3, f4, f5, f6, f7, f8, f9⟩ := tD_one D yb.1 yb.2
        have wB := fun q => dB_dN (p := p) (w := -4) (dd := 3) hp ⟨by omega, by omega⟩ q
        obtain ⟨⟨wa1, wa2⟩, ⟨wa3, wa4⟩, wa5, wa6⟩ := wB a
        obtain ⟨⟨wb1, wb2⟩, ⟨wb3, wb4⟩, wb5, wb6⟩ := wB b
        refine s_ldA0 ok rfl ?_
        refine s_getF ok rfl rfl rfl rfl ?_
        refine s_ldI1 ok rfl ?_
        refine s_callV ok rfl rfl rfl rfl rfl rfl (ct_arrives9 ya.1 (by omega) (hz44 a ya.1 ya.2)) ?_
        refine s_if_eq ok rfl zif10 (fun c49 => ?_) (fun c49 => ?_)
        · refine s_ci ok rfl ?_
          first
            | exact s_retI ok rfl ⟨congrArg (fun z => some (Value.int (iI z))) (by rw [if_pos yes, if_pos (Or.inl (d9.mp (zif_n c49)))]), _, rfl, gf⟩
            | (have o : dN p (-4) 3 69 a < 0 ∨ ¬ dN p (-4) 3 69 a = dN p (-4) 3 69 b := by
                 by_cases y : dN p (-4) 3 69 a < 0
                 · exact Or.inl y
                 · exact Or.inr fun e => c70 (by rw [d1, f1, e])
               exact s_retI ok rfl ⟨congrArg (fun z => some (Value.int (iI z))) (by rw [if_pos yes, if_pos o]), _, rfl, gf⟩)
        · refine s_ldA0 ok rfl ?_
          refine s_getF ok rfl rfl rfl rfl ?_
          refine s_getF ok rfl rfl rfl rfl ?_
          refine s_ldI1 ok rfl ?_
          refine s_iald ok rfl (by exact rfl) (by exact rfl) (by omega) (by omega) ?_
          refine s_ldA0 ok rfl ?_
          refine s_getF ok rfl rfl rfl rfl ?_
          refine s_getF ok rfl rfl rfl rfl ?_
          refine s_ldI2 ok rfl ?_
          refine s_iald ok rfl (by exact rfl) (by exact rfl) (by omega) (by omega) ?_
          refine s_c_eq ok rfl (hz44 a ya.1 ya.2) (hz44 b yb.1 yb.2) (fun c70 => ?_) (fun c70 => ?_)
          · have n1 : ¬ dN p (-4) 3 69 a < 0 := fun y => zif_m c49 (d9.mpr y)
            have e69 : dN p (-4) 3 69 a = dN p (-4) 3 69 b := by
              rw [d1, f1, if_neg n1] at c70
              split at c70 <;> omega
            obtain ⟨a45, a46, -⟩ := d2 (by omega)
            obtain ⟨b45, b46, -⟩ := f2 (by omega)
            refine s_ldA0 ok rfl ?_
            refine s_getF ok rfl rfl rfl rfl ?_
            refine s_getF ok rfl rfl rfl rfl ?_
            refine s_ldI1 ok rfl ?_
            refine s_iald ok rfl (by exact rfl) (by exact rfl) (by omega) (by omega) ?_
            refine s_ldA0 ok rfl ?_
            refine s_getF ok rfl rfl rfl rfl ?_
            refine s_getF ok rfl rfl rfl rfl ?_
            refine s_ldI2 ok rfl ?_
            refine s_iald ok rfl (by exact rfl) (by exact rfl) (by omega) (by omega) ?_
            refine s_max ok rfl rfl rfl ⟨by omega, by omega⟩ ⟨by omega, by omega⟩ ?_
            refine s_stI3 ok rfl rfl ?_
            refine s_ldA0 ok rfl ?_
            refine s_getF ok rfl rfl rfl rfl ?_
            refine s_getF ok rfl rfl rfl rfl ?_
            refine s_ldI1 ok rfl ?_
            refine s_iald ok rfl (by exact rfl) (by exact rfl) (by omega) (by omega) ?_
            refine s_ldA0 ok rfl ?_
            refine s_getF ok rfl rfl rfl rfl ?_
            refine s_getF ok rfl rfl rfl rfl ?_
            refine s_ldI2 ok rfl ?_
            refine s_iald ok rfl (by exact rfl) (by exact rfl) (by omega) (by omega) ?_
            refine s_min ok rfl rfl rfl ⟨by omega, by omega⟩ ⟨by omega, by omega⟩ ?_
            refine s_stI4 ok rfl rfl ?_
            refine s_ci ok rfl ?_
            refine s_ldI4 ok rfl ?_
            refine s_ldI3 ok rfl ?_
            refine s_sub ok rfl ?_
            refine s_max ok rfl rfl rfl ⟨by omega, by omega⟩ ⟨by (repeat' split) <;> omega, by (repeat' split) <;> omega⟩ ?_
            exact s_retI ok rfl ⟨congrArg (fun z => some (Value.int (iI z))) (by rw [if_pos yes, if_neg (show ¬ (dN p (-4) 3 69 a < 0 ∨ ¬ dN p (-4) 3 69 a = dN p (-4) 3 69 b) by omega), a45, a46, b45, b46]; (repeat' split) <;> omega), _, rfl, gf⟩
          · refine s_ci ok rfl ?_
            first
              | exact s_retI ok rfl ⟨congrArg (fun z => some (Value.int (iI z))) (by rw [if_pos yes, if_pos (Or.inl (d9.mp (zif_n c49)))]), _, rfl, gf⟩
              | (have o : dN p (-4) 3 69 a < 0 ∨ ¬ dN p (-4) 3 69 a = dN p (-4) 3 69 b := by
                   by_cases y : dN p (-4) 3 69 a < 0
                   · exact Or.inl y
                   · exact Or.inr fun e => c70 (by rw [d1, f1, e])
                 exact s_retI ok rfl ⟨congrArg (fun z => some (Value.int (iI z))) (by rw [if_pos yes, if_pos o]), _, rfl, gf⟩)
theorem lp_allMissed {E : zE} {d : Nat} {k : Nat → Nat × Nat} {h : Nat → Int → Int} {r : Nat → Int → Option Nat} {l : Nat → Nat → Int64} {n : Nat} {p : Int → Int} (hs : pS p) (hR : cR 4 5 6 7 8 9 10 11 12 13 k h r n p (-4)) (hC : tC p (-4) h) (D : tD p (-4) 3 h) : ∀ c : Nat, ∀ m : Nat, (p 6).toNat < m + c → m ≤ (p 6).toNat → zGo E (d + 4) M_X11_allMissed 0 0 (zV (.int (iI (zsum (sSm (dN p (-4) 3) p 2) (p 6).toNat))) (zJ (k, h, r, l, n))) 4 ([some (.ref 3), some (.int (iI (zsum (sSm (dN p (-4) 3) p 2) m))), some (.int (iI ((m : Int))))], [], zJ (k, h, r, l, n), 0, 0) := by
  have ok := ok_X11_allMissed
  intro c
  induction c with
  | zero =>
    intros
    omega
  | succ c ih =>
    intro m g1 g2
    have hp := hs.1
    have p60 := hp.2.2.2.2.2.2.2.2.2.2.2.2.1
    have p68 := hp.2.2.2.2.2.2.2.2.2.2.2.2.2.1
    have n0 : h 4 0 = ((p 6).toNat : Int) := by rw [cR4_n hR]; omega
    refine s_ldI2 ok rfl ?_
    refine s_ldA0 ok rfl ?_
    refine s_getF ok rfl rfl rfl rfl ?_
    refine s_getJ 0 ok rfl rfl rfl rfl ?_
    rw [n0]
    refine s_c_ge ok rfl ⟨by omega, by omega⟩ ⟨by omega, by omega⟩ (fun c12 => ?_) (fun c12 => ?_)
    · refine s_ldI1 ok rfl ?_
      refine s_retI ok rfl ⟨by rw [show m = (p 6).toNat by omega], rfl⟩
    · have m1 : (m : Int) < p 6 := by omega
      obtain ⟨d1, d2, d3, d4, d5, d6, d7, d8, d9⟩ := tD_one D (t := (m : Int)) (by omega) m1
      have z44 : zb (h 44 (m : Int)) := by
        rw [d1]
        split
        · exact ⟨by omega, by omega⟩
        · exact (dN_ok (dd := 3) hp (w := -4) ⟨by omega, by omega⟩).2.1 m
      have es : ∀ a, zsum (sSm (dN p (-4) 3) p a) (m + 1) = zsum (sSm (dN p (-4) 3) p a) m + sSm (dN p (-4) 3) p a m := fun _ => rfl
      refine s_ldI1 ok rfl ?_
      refine s_ldA0 ok rfl ?_
      refine s_getF ok rfl rfl rfl rfl ?_
      refine s_ldI2 ok rfl ?_
      refine s_callV ok rfl rfl rfl rfl rfl rfl (ct_missedBy (by omega) (by omega) (by rw [d5]; exact d7.1) (by rw [d5]; exact d7.2)) ?_
      refine s_add ok rfl ?_
      refine s_stI1 ok rfl rfl ?_
      refine s_inc2 ok rfl rfl ?_
      refine s_goto ok rfl ?_
      have nx := ih (m + 1) (by omega) (by omega)
      rw [es, show sSm (dN p (-4) 3) p 2 (m : Int) = dN p (-4) 3 73 m by simp [sSm], ← d6, ← d5] at nx
      exact nx
theorem ct_allMissed {E : zE} {d : Nat} {k : Nat → Nat × Nat} {h : Nat → Int → Int} {r : Nat → Int → Option Nat} {l : Nat → Nat → Int64} {n : Nat} {p : Int → Int} (hs : pS p) (hR : cR 4 5 6 7 8 9 10 11 12 13 k h r n p (-4)) (hC : tC p (-4) h) (D : tD p (-4) 3 h) : zCT E (d + 4) M_X11_allMissed [.ref 3] (zJ (k, h, r, l, n)) 0 0 (zV (.int (iI (zsum (sSm (dN p (-4) 3) p 2) (p 6).toNat))) (zJ (k, h, r, l, n))) := by
  have ok := ok_X11_allMissed
  refine zCT_of pn_X11_allMissed (Nat.le_of_ble_eq_true rfl) ?_
  show zGo _ _ _ _ _ _ 0 ([some (.ref 3), none, none], [], _, _, _)
  refine s_ci ok rfl ?_
  refine s_stI1 ok rfl rfl ?_
  refine s_ci ok rfl ?_
  refine s_stI2 ok rfl rfl ?_
  exact lp_allMissed hs hR hC D ((p 6).toNat + 1) 0 (by omega) (by omega)
theorem lp_allWaited {E : zE} {d : Nat} {k : Nat → Nat × Nat} {h : Nat → Int → Int} {r : Nat → Int → Option Nat} {l : Nat → Nat → Int64} {n : Nat} {p : Int → Int} (hs : pS p) (hR : cR 4 5 6 7 8 9 10 11 12 13 k h r n p (-4)) (hC : tC p (-4) h) (D : tD p (-4) 3 h) : ∀ c : Nat, ∀ m : Nat, (p 6).toNat < m + c → m ≤ (p 6).toNat → zGo E (d + 4) M_X11_allWaited 0 0 (zV (.int (iI (zsum (sSm (dN p (-4) 3) p 3) (p 6).toNat))) (zJ (k, h, r, l, n))) 4 ([some (.ref 3), some (.int (iI (zsum (sSm (dN p (-4) 3) p 3) m))), some (.int (iI ((m : Int))))], [], zJ (k, h, r, l, n), 0, 0) := by
  have ok := ok_X11_allWaited
  intro c
  induction c with
  | zero =>
    intros
    omega
  | succ c ih =>
    intro m g1 g2
    have hp := hs.1
    have p60 := hp.2.2.2.2.2.2.2.2.2.2.2.2.1
    have p68 := hp.2.2.2.2.2.2.2.2.2.2.2.2.2.1
    have n0 : h 4 0 = ((p 6).toNat : Int) := by rw [cR4_n hR]; omega
    refine s_ldI2 ok rfl ?_
    refine s_ldA0 ok rfl ?_
    refine s_getF ok rfl rfl rfl rfl ?_
    refine s_getJ 0 ok rfl rfl rfl rfl ?_
    rw [n0]
    refine s_c_ge ok rfl ⟨by omega, by omega⟩ ⟨by omega, by omega⟩ (fun c12 => ?_) (fun c12 => ?_)
    · refine s_ldI1 ok rfl ?_
      refine s_retI ok rfl ⟨by rw [show m = (p 6).toNat by omega], rfl⟩
    · have m1 : (m : Int) < p 6 := by omega
      obtain ⟨d1, d2, d3, d4, d5, d6, d7, d8, d9⟩ := tD_one D (t := (m : Int)) (by omega) m1
      have z44 : zb (h 44 (m : Int)) := by
        rw [d1]
        split
        · exact ⟨by omega, by omega⟩
        · exact (dN_ok (dd := 3) hp (w := -4) ⟨by omega, by omega⟩).2.1 m
      have es : ∀ a, zsum (sSm (dN p (-4) 3) p a) (m + 1) = zsum (sSm (dN p (-4) 3) p a) m + sSm (dN p (-4) 3) p a m := fun _ => rfl
      have e38 : h 38 (m : Int) = pCm p m := by
        have := (hC.2.1 m (by omega) (by rw [cnP_4]; exact m1)).1
        rw [sg_4] at this
        exact this
      refine s_ldA0 ok rfl ?_
      refine s_getF ok rfl rfl rfl rfl ?_
      refine s_ldI2 ok rfl ?_
      refine s_callV ok rfl rfl rfl rfl rfl rfl (ct_arrives9 (by omega) (by omega) z44) ?_
      refine s_if_eq ok rfl zif10 (fun c23 => ?_) (fun c23 => ?_)
      · refine s_inc2 ok rfl rfl ?_
        refine s_goto ok rfl ?_
        have nx := ih (m + 1) (by omega) (by omega)
        first
          | (have n71 := d8.mp (zif_n c23)
             rw [es, show sSm (dN p (-4) 3) p 3 (m : Int) = 0 by simp [sSm, n71], Int.add_zero] at nx
             exact nx)
          | (have n71 : ¬ dN p (-4) 3 71 (m : Int) < 0 := fun y => zif_m c23 (d8.mpr y)
             have n69 : ¬ dN p (-4) 3 69 (m : Int) < 0 := fun y => zif_m c23 (d9.mpr y)
             obtain ⟨e45, e46, -⟩ := d2 (by omega)
             rw [if_neg n69] at d1
             rw [es, show sSm (dN p (-4) 3) p 3 (m : Int) = dN p (-4) 3 70 m - pCm p m by simp [sSm, n71]] at nx
             rw [← e45, ← e38] at nx
             exact nx)
      · refine s_ldI1 ok rfl ?_
        refine s_ldA0 ok rfl ?_
        refine s_getF ok rfl rfl rfl rfl ?_
        refine s_getF ok rfl rfl rfl rfl ?_
        refine s_ldI2 ok rfl ?_
        refine s_iald ok rfl (by exact rfl) (by exact rfl) (by omega) (by omega) ?_
        refine s_ldA0 ok rfl ?_
        refine s_getF ok rfl rfl rfl rfl ?_
        refine s_getF ok rfl rfl rfl rfl ?_
        refine s_ldI2 ok rfl ?_
        refine s_iald ok rfl (by exact rfl) (by exact rfl) (by omega) (by omega) ?_
        refine s_sub ok rfl ?_
        refine s_add ok rfl ?_
        refine s_stI1 ok rfl rfl ?_
        refine s_inc2 ok rfl rfl ?_
        refine s_goto ok rfl ?_
        have nx := ih (m + 1) (by omega) (by omega)
        first
          | (have n71 := d8.mp (zif_n c23)
             rw [es, show sSm (dN p (-4) 3) p 3 (m : Int) = 0 by simp [sSm, n71], Int.add_zero] at nx
             exact nx)
          | (have n71 : ¬ dN p (-4) 3 71 (m : Int) < 0 := fun y => zif_m c23 (d8.mpr y)
             have n69 : ¬ dN p (-4) 3 69 (m : Int) < 0 := fun y => zif_m c23 (d9.mpr y)
             obtain ⟨e45, e46, -⟩ := d2 (by omega)
             rw [if_neg n69] at d1
             rw [es, show sSm (dN p (-4) 3) p 3 (m : Int) = dN p (-4) 3 70 m - pCm p m by simp [sSm, n71]] at nx
             rw [← e45, ← e38] at nx
             exact nx)
theorem ct_allWaited {E : zE} {d : Nat} {k : Nat → Nat × Nat} {h : Nat → Int → Int} {r : Nat → Int → Option Nat} {l : Nat → Nat → Int64} {n : Nat} {p : Int → Int} (hs : pS p) (hR : cR 4 5 6 7 8 9 10 11 12 13 k h r n p (-4)) (hC : tC p (-4) h) (D : tD p (-4) 3 h) : zCT E (d + 4) M_X11_allWaited [.ref 3] (zJ (k, h, r, l, n)) 0 0 (zV (.int (iI (zsum (sSm (dN p (-4) 3) p 3) (p 6).toNat))) (zJ (k, h, r, l, n))) := by
  have ok := ok_X11_allWaited
  refine zCT_of pn_X11_allWaited (Nat.le_of_ble_eq_true rfl) ?_
  show zGo _ _ _ _ _ _ 0 ([some (.ref 3), none, none], [], _, _, _)
  refine s_ci ok rfl ?_
  refine s_stI1 ok rfl rfl ?_
  refine s_ci ok rfl ?_
  refine s_stI2 ok rfl rfl ?_
  exact lp_allWaited hs hR hC D ((p 6).toNat + 1) 0 (by omega) (by omega)
theorem lp_allRefunds {E : zE} {d : Nat} {k : Nat → Nat × Nat} {h : Nat → Int → Int} {r : Nat → Int → Option Nat} {l : Nat → Nat → Int64} {n : Nat} {p : Int → Int} (hs : pS p) (hR : cR 4 5 6 7 8 9 10 11 12 13 k h r n p (-4)) (hC : tC p (-4) h) (D : tD p (-4) 3 h) : ∀ c : Nat, ∀ m : Nat, (p 6).toNat < m + c → m ≤ (p 6).toNat → zGo E (d + 6) M_X11_allRefunds 0 0 (zV (.int (iI (zsum (sSm (dN p (-4) 3) p 4) (p 6).toNat))) (zJ (k, h, r, l, n))) 4 ([some (.ref 3), some (.int (iI (zsum (sSm (dN p (-4) 3) p 4) m))), some (.int (iI ((m : Int))))], [], zJ (k, h, r, l, n), 0, 0) := by
  have ok := ok_X11_allRefunds
  intro c
  induction c with
  | zero =>
    intros
    omega
  | succ c ih =>
    intro m g1 g2
    have hp := hs.1
    have p60 := hp.2.2.2.2.2.2.2.2.2.2.2.2.1
    have p68 := hp.2.2.2.2.2.2.2.2.2.2.2.2.2.1
    have n0 : h 4 0 = ((p 6).toNat : Int) := by rw [cR4_n hR]; omega
    refine s_ldI2 ok rfl ?_
    refine s_ldA0 ok rfl ?_
    refine s_getF ok rfl rfl rfl rfl ?_
    refine s_getJ 0 ok rfl rfl rfl rfl ?_
    rw [n0]
    refine s_c_ge ok rfl ⟨by omega, by omega⟩ ⟨by omega, by omega⟩ (fun c12 => ?_) (fun c12 => ?_)
    · refine s_ldI1 ok rfl ?_
      refine s_retI ok rfl ⟨by rw [show m = (p 6).toNat by omega], rfl⟩
    · have m1 : (m : Int) < p 6 := by omega
      obtain ⟨d1, d2, d3, d4, d5, d6, d7, d8, d9⟩ := tD_one D (t := (m : Int)) (by omega) m1
      have z44 : zb (h 44 (m : Int)) := by
        rw [d1]
        split
        · exact ⟨by omega, by omega⟩
        · exact (dN_ok (dd := 3) hp (w := -4) ⟨by omega, by omega⟩).2.1 m
      have es : ∀ a, zsum (sSm (dN p (-4) 3) p a) (m + 1) = zsum (sSm (dN p (-4) 3) p a) m + sSm (dN p (-4) 3) p a m := fun _ => rfl
      refine s_ldA0 ok rfl ?_
      refine s_getF ok rfl rfl rfl rfl ?_
      refine s_ldI2 ok rfl ?_
      refine s_callV ok rfl rfl rfl rfl rfl rfl (ct_arrives9 (by omega) (by omega) z44) ?_
      refine s_if_eq ok rfl zif10 (fun c23 => ?_) (fun c23 => ?_)
      · refine s_inc2 ok rfl rfl ?_
        refine s_goto ok rfl ?_
        have nx := ih (m + 1) (by omega) (by omega)
        first
          | (have n71 := d8.mp (zif_n c23)
             rw [es, show sSm (dN p (-4) 3) p 4 (m : Int) = 0 by simp [sSm, n71], Int.add_zero] at nx
             exact nx)
          | (have n71 : ¬ dN p (-4) 3 71 (m : Int) < 0 := fun y => zif_m c23 (d8.mpr y)
             have n69 : ¬ dN p (-4) 3 69 (m : Int) < 0 := fun y => zif_m c23 (d9.mpr y)
             obtain ⟨e45, e46, -⟩ := d2 (by omega)
             rw [if_neg n69] at d1
             rw [es, show sSm (dN p (-4) 3) p 4 (m : Int) = pRf p m (dN p (-4) 3 69 m % 3) by simp [sSm, n71]] at nx
             rw [← d1] at nx
             exact nx)
      · have q69 : ¬ dN p (-4) 3 69 (m : Int) < 0 := fun y => zif_m c23 (d9.mpr y)
        have q44 := d1
        rw [if_neg q69] at q44
        have w69 := (dB_dN (p := p) (w := -4) (dd := 3) hp ⟨by omega, by omega⟩ m).1
        obtain ⟨v, hv, wv, -⟩ := cR4_one hR (t := (m : Int)) (by omega) m1
        refine s_ldI1 ok rfl ?_
        refine s_ldA0 ok rfl ?_
        refine s_getF ok rfl rfl rfl rfl ?_
        refine s_getF ok rfl rfl rfl rfl ?_
        refine s_ldI2 ok rfl ?_
        refine s_aald ok rfl (by exact rfl) (by exact rfl) (by exact rfl) (by omega) (by omega) hv ?_
        refine s_ldA0 ok rfl ?_
        refine s_getF ok rfl rfl rfl rfl ?_
        refine s_getF ok rfl rfl rfl rfl ?_
        refine s_ldI2 ok rfl ?_
        refine s_iald ok rfl (by exact rfl) (by exact rfl) (by omega) (by omega) ?_
        refine s_ci ok rfl ?_
        refine s_rem ok rfl ⟨by omega, by omega⟩ ⟨by omega, by omega⟩ (by omega) (by omega) ?_
        refine s_callD ok rfl rfl rfl rfl (vt_refundFor wv (by omega) (by omega)) ?_
        refine s_add ok rfl ?_
        refine s_stI1 ok rfl rfl ?_
        refine s_inc2 ok rfl rfl ?_
        refine s_goto ok rfl ?_
        have nx := ih (m + 1) (by omega) (by omega)
        first
          | (have n71 := d8.mp (zif_n c23)
             rw [es, show sSm (dN p (-4) 3) p 4 (m : Int) = 0 by simp [sSm, n71], Int.add_zero] at nx
             exact nx)
          | (have n71 : ¬ dN p (-4) 3 71 (m : Int) < 0 := fun y => zif_m c23 (d8.mpr y)
             have n69 : ¬ dN p (-4) 3 69 (m : Int) < 0 := fun y => zif_m c23 (d9.mpr y)
             obtain ⟨e45, e46, -⟩ := d2 (by omega)
             rw [if_neg n69] at d1
             rw [es, show sSm (dN p (-4) 3) p 4 (m : Int) = pRf p m (dN p (-4) 3 69 m % 3) by simp [sSm, n71]] at nx
             rw [← d1] at nx
             exact nx)
theorem ct_allRefunds {E : zE} {d : Nat} {k : Nat → Nat × Nat} {h : Nat → Int → Int} {r : Nat → Int → Option Nat} {l : Nat → Nat → Int64} {n : Nat} {p : Int → Int} (hs : pS p) (hR : cR 4 5 6 7 8 9 10 11 12 13 k h r n p (-4)) (hC : tC p (-4) h) (D : tD p (-4) 3 h) : zCT E (d + 6) M_X11_allRefunds [.ref 3] (zJ (k, h, r, l, n)) 0 0 (zV (.int (iI (zsum (sSm (dN p (-4) 3) p 4) (p 6).toNat))) (zJ (k, h, r, l, n))) := by
  have ok := ok_X11_allRefunds
  refine zCT_of pn_X11_allRefunds (Nat.le_of_ble_eq_true rfl) ?_
  show zGo _ _ _ _ _ _ 0 ([some (.ref 3), none, none], [], _, _, _)
  refine s_ci ok rfl ?_
  refine s_stI1 ok rfl rfl ?_
  refine s_ci ok rfl ?_
  refine s_stI2 ok rfl rfl ?_
  exact lp_allRefunds hs hR hC D ((p 6).toNat + 1) 0 (by omega) (by omega)
