/-! plans: dropPerson, cancelledBits, allRuns -/
theorem lp_drop4 {E : zE} {d : Nat} {k : Nat → Nat × Nat} {h : Nat → Int → Int} {r : Nat → Int → Option Nat} {l : Nat → Nat → Int64} {n : Nat} {Q : zQ} {np t : Int} (e0 : h 4 0 = np) (t0 : 0 ≤ t) (n8 : np ≤ 8) (hw : ∀ t : Int, 0 ≤ t → t < 8 → ∃ v c, r 5 t = some v ∧ zkF k v = (c, 2) ∧ zmem c [0, 1, 2, 5, 6, 7, 8, 10] = true ∧ v < n) (hX : ∀ g r9, (∀ q, ¬ q = 6 → ¬ q = 7 → ¬ q = 8 → g q = h q) ∧ (∀ q, ¬ q = 5 → r9 q = r q) ∧ (∀ s : Int, 0 ≤ s → s < 8 → r9 5 s = r 5 (if t ≤ s ∧ s < np - 1 then s + 1 else s) ∧ g 6 s = h 6 (if t ≤ s ∧ s < np - 1 then s + 1 else s) ∧ g 7 s = h 7 (if t ≤ s ∧ s < np - 1 then s + 1 else s) ∧ g 8 s = h 8 (if t ≤ s ∧ s < np - 1 then s + 1 else s)) → ∀ u, zGo E (d + 2) M_X3_dropPerson 0 0 Q 83 ([some (.ref 4), some (.int (iI (t))), some (.int u)], [], zJ (k, g, r9, l, n), 0, 0)) : ∀ c : Nat, ∀ (m : Nat) (g : Nat → Int → Int) (r9 : Nat → Int → Option Nat), (∀ q, ¬ q = 6 → ¬ q = 7 → ¬ q = 8 → g q = h q) ∧ (∀ q, ¬ q = 5 → r9 q = r q) ∧ (∀ s : Int, 0 ≤ s → s < 8 → r9 5 s = r 5 (if t ≤ s ∧ s < (m : Int) then s + 1 else s) ∧ g 6 s = h 6 (if t ≤ s ∧ s < (m : Int) then s + 1 else s) ∧ g 7 s = h 7 (if t ≤ s ∧ s < (m : Int) then s + 1 else s) ∧ g 8 s = h 8 (if t ≤ s ∧ s < (m : Int) then s + 1 else s)) → np < m + 1 + c → t ≤ m → m + 1 ≤ np → zGo E (d + 2) M_X3_dropPerson 0 0 Q 11 ([some (.ref 4), some (.int (iI (t))), some (.int (iI ((m : Int))))], [], zJ (k, g, r9, l, n), 0, 0) := by
  have ok := ok_X3_dropPerson
  intro c
  induction c with
  | zero =>
    intros
    omega
  | succ c ih =>
    intro m g r9 ⟨f, fr, ft⟩ g1 g2 g3
    have e9 : g 4 0 = np := by rw [f 4 (by omega) (by omega) (by omega)]; exact e0
    refine s_ldI2 ok rfl ?_
    refine s_ci ok rfl ?_
    refine s_add ok rfl ?_
    refine s_ldA0 ok rfl ?_
    refine s_getJ 0 ok rfl rfl rfl rfl ?_
    rw [e9]
    refine s_c_ge ok rfl ⟨by omega, by omega⟩ ⟨by omega, by omega⟩ (fun c18 => ?_) (fun c18 => ?_)
    · rw [show (m : Int) = np - 1 by omega] at ft ⊢
      exact hX g r9 ⟨f, fr, ft⟩ _
    · obtain ⟨v9, cv, hv1, hv2, hv3, -⟩ := hw (m + 1) (by omega) (by omega)
      obtain ⟨w1, w2, w3, w4⟩ := ft ((m : Int) + 1) (by omega) (by omega)
      rw [if_neg (by omega)] at w1 w2 w3 w4
      have hv : r9 5 ((m : Int) + 1) = some v9 := w1.trans hv1
      refine s_ldA0 ok rfl ?_
      refine s_getF ok rfl rfl rfl rfl ?_
      refine s_ldI2 ok rfl ?_
      refine s_ldA0 ok rfl ?_
      refine s_getF ok rfl rfl rfl rfl ?_
      refine s_ldI2 ok rfl ?_
      refine s_ci ok rfl ?_
      refine s_add ok rfl ?_
      refine s_aald ok rfl (by exact rfl) (by exact rfl) (by exact rfl) (by omega) (by omega) hv ?_
      refine s_aast ok rfl (by exact rfl) (by exact rfl) (by exact rfl) (by omega) (by omega) hv2 hv3 ?_
      refine s_ldA0 ok rfl ?_
      refine s_getF ok rfl rfl rfl rfl ?_
      refine s_ldI2 ok rfl ?_
      refine s_ldA0 ok rfl ?_
      refine s_getF ok rfl rfl rfl rfl ?_
      refine s_ldI2 ok rfl ?_
      refine s_ci ok rfl ?_
      refine s_add ok rfl ?_
      refine s_iald ok rfl (by exact rfl) (by exact rfl) (by omega) (by omega) ?_
      rw [w2]
      refine s_iast ok rfl (by exact rfl) (by exact rfl) (by omega) (by omega) (fun q => by cases q) ?_
      refine s_ldA0 ok rfl ?_
      refine s_getF ok rfl rfl rfl rfl ?_
      refine s_ldI2 ok rfl ?_
      refine s_ldA0 ok rfl ?_
      refine s_getF ok rfl rfl rfl rfl ?_
      refine s_ldI2 ok rfl ?_
      refine s_ci ok rfl ?_
      refine s_add ok rfl ?_
      refine s_iald ok rfl (by exact rfl) (by exact rfl) (by omega) (by omega) ?_
      rw [show zv g 6 (m : Int) (h 6 ((m : Int) + 1)) 7 ((m : Int) + 1) = h 7 ((m : Int) + 1) from (congrFun (zv_other (by omega)) _).trans w3]
      refine s_iast ok rfl (by exact rfl) (by exact rfl) (by omega) (by omega) (fun q => by cases q) ?_
      refine s_ldA0 ok rfl ?_
      refine s_getF ok rfl rfl rfl rfl ?_
      refine s_ldI2 ok rfl ?_
      refine s_ldA0 ok rfl ?_
      refine s_getF ok rfl rfl rfl rfl ?_
      refine s_ldI2 ok rfl ?_
      refine s_ci ok rfl ?_
      refine s_add ok rfl ?_
      refine s_iald ok rfl (by exact rfl) (by exact rfl) (by omega) (by omega) ?_
      rw [show zv (zv g 6 (m : Int) (h 6 ((m : Int) + 1))) 7 (m : Int) (h 7 ((m : Int) + 1)) 8 ((m : Int) + 1) = h 8 ((m : Int) + 1) from (congrFun (zv_other (by omega)) _).trans ((congrFun (zv_other (by omega)) _).trans w4)]
      refine s_iast ok rfl (by exact rfl) (by exact rfl) (by omega) (by omega) (fun q => by cases q) ?_
      refine s_inc2 ok rfl rfl ?_
      refine s_goto ok rfl ?_
      refine ih (m + 1) _ _ ⟨fun q h2 h3 h4 => ?_, fun q hq => ?_, fun s s0 s1 => ?_⟩ (by omega) (by omega) (by omega)
      · rw [zv_other h4, zv_other h3, zv_other h2]
        exact f q h2 h3 h4
      · rw [zv_other hq]
        exact fr q hq
      · have x2 : zv (zv (zv g 6 (m : Int) (h 6 ((m : Int) + 1))) 7 (m : Int) (h 7 ((m : Int) + 1))) 8 (m : Int) (h 8 ((m : Int) + 1)) 6 = zv g 6 (m : Int) (h 6 ((m : Int) + 1)) 6 := by rw [zv_other (by omega), zv_other (by omega)]
        have x3 : zv (zv (zv g 6 (m : Int) (h 6 ((m : Int) + 1))) 7 (m : Int) (h 7 ((m : Int) + 1))) 8 (m : Int) (h 8 ((m : Int) + 1)) 7 = zv (zv g 6 (m : Int) (h 6 ((m : Int) + 1))) 7 (m : Int) (h 7 ((m : Int) + 1)) 7 := by rw [zv_other (by omega)]
        rw [x2, x3]
        by_cases e : s = m
        · rw [if_pos (by omega), e, zv_is, zv_is, zv_is, zv_is]
          exact ⟨hv1.symm, rfl, rfl, rfl⟩
        · obtain ⟨q1, q2, q3, q4⟩ := ft s s0 s1
          rw [zv_at e, zv_at e, zv_at e, zv_at e, zv_other (by omega), zv_other (by omega), zv_other (by omega)]
          have es : (if t ≤ s ∧ s < ((m + 1 : Nat) : Int) then s + 1 else s) = if t ≤ s ∧ s < (m : Int) then s + 1 else s := by
            by_cases c : t ≤ s ∧ s < (m : Int)
            · rw [if_pos c, if_pos (by omega)]
            · rw [if_neg c, if_neg (by omega)]
          rw [es]
          exact ⟨q1, q2, q3, q4⟩
theorem ct_drop4 {E : zE} {d : Nat} {k : Nat → Nat × Nat} {h : Nat → Int → Int} {r : Nat → Int → Option Nat} {l : Nat → Nat → Int64} {n : Nat} {p : Int → Int} (hR : cR 4 5 6 7 8 9 10 11 12 13 k h r n p (-4)) {t : Int} (t0 : 0 ≤ t) (t1 : t < p 6) (p68 : p 6 ≤ 8) : zCT E (d + 2) M_X3_dropPerson [.ref 4, .int (iI (t))] (zJ (k, h, r, l, n)) 0 0 (zUx (fun s => ∃ g r9, s = zJ (k, g, r9, l, n) ∧ (∀ q : Nat, q < 4 ∨ 13 < q → g q = h q) ∧ (∀ q, ¬ q = 5 → r9 q = r q) ∧ cR 4 5 6 7 8 9 10 11 12 13 k g r9 n p t)) := by
  have ok := ok_X3_dropPerson
  refine zCT_of pn_X3_dropPerson (Nat.le_of_ble_eq_true rfl) ?_
  show zGo _ _ _ _ _ _ 0 ([some (.ref 4), some (.int (iI (t))), none], [], _, _, _)
  have e6 : h 4 0 = p 6 := by have := hR.1.1; rw [cnP_4] at this; exact this
  refine s_ldA0 ok rfl ?_
  refine s_ldI1 ok rfl ?_
  refine s_callV ok rfl rfl rfl rfl rfl rfl (ct_isPerson4 e6 (by omega) p68 ⟨by omega, by omega⟩) ?_
  refine s_if_eq ok rfl zif01 (fun c5 => ?_) (fun c5 => ?_)
  · exact absurd (And.intro t0 t1) (zif_f c5)
  · refine s_ldI1 ok rfl ?_
    refine s_stI2 ok rfl rfl ?_
    refine zgo_eq ?_ (lp_drop4 (E := E) (d := d) (k := k) (r := r) (l := l) (n := n) (h := h) e6 t0 p68 hR.2.2.1 (fun g r9 ⟨f, fr, ft⟩ u => ?_) (p 6).toNat t.toNat h r ⟨fun q _ _ _ => rfl, fun q _ => rfl, fun s s0 s1 => ?_⟩ (by omega) (by omega) (by omega))
    · rw [show ((t.toNat : Nat) : Int) = t by omega]
    · have g6 : g 4 0 = p 6 := by rw [f 4 (by omega) (by omega) (by omega)]; exact e6
      refine s_ldA0 ok rfl ?_
      refine s_dupA ok rfl ?_
      refine s_getJ 0 ok rfl rfl rfl rfl ?_
      rw [g6]
      refine s_ci ok rfl ?_
      refine s_sub ok rfl ?_
      refine s_putJ 0 ok rfl rfl rfl rfl (fun q => by cases q) ?_
      refine s_retV ok rfl ⟨rfl, _, r9, rfl, fun q hq => ?_, fr, ?_⟩
      · rw [zv_other (by omega)]
        exact f q (by omega) (by omega) (by omega)
      · have fw : fW k h (zv g 4 0 (p 6 - 1)) := fW_fix fun q hq => by
          rw [zv_other (by omega)]
          exact f q (by omega) (by omega) (by omega)
        have ec : cnP p t = p 6 - 1 := if_pos ⟨t0, t1⟩
        have o : ∀ q, ¬ q = 4 → zv g 4 0 (p 6 - 1) q = g q := fun q hq => zv_other hq
        obtain ⟨⟨c0, c5⟩, c1, c2, c3, c4, c6⟩ := hR
        rw [cnP_4] at c1
        unfold cR
        rw [ec]
        refine ⟨⟨zv_is, ?_⟩, fun s s0 s1 => ?_, fun s s0 s1 => ?_, fun x x0 x1 => ?_, fun j j0 j1 => ?_, fun j j0 j1 => ?_⟩
        · rw [zv_at (by omega), f 4 (by omega) (by omega) (by omega)]; exact c5
        · obtain ⟨q1, q2, q3, q4⟩ := ft s s0 (by omega)
          have es : (if t ≤ s ∧ s < p 6 - 1 then s + 1 else s) = sg t s := by
            unfold sg
            by_cases c : t ≤ s
            · rw [if_pos ⟨c, s1⟩, if_pos ⟨t0, c⟩]
            · rw [if_neg (fun z => c z.1), if_neg (fun z => c z.2)]
          rw [es] at q1 q2 q3 q4
          have g0 := sg_in (w := t) s0
          have g1 : sg t s < p 6 := by unfold sg; split <;> omega
          obtain ⟨u, u1, u2, u3, u4, u5⟩ := c1 (sg t s) g0 g1
          rw [sg_4] at u2 u3 u4 u5
          rw [o _ (by omega), o _ (by omega), o _ (by omega), q1, q2, q3, q4]
          exact ⟨u, u1, wk_fr u2 fw, u3, u4, u5⟩
        · obtain ⟨q1, -⟩ := ft s s0 s1
          rw [q1]
          by_cases c : t ≤ s ∧ s < p 6 - 1
          · rw [if_pos c]
            exact c2 (s + 1) (by omega) (by omega)
          · rw [if_neg c]
            exact c2 s s0 s1
        · rw [o _ (by omega), o _ (by omega), o _ (by omega), f _ (by omega) (by omega) (by omega), f _ (by omega) (by omega) (by omega), f _ (by omega) (by omega) (by omega)]
          exact c3 x x0 x1
        · rw [o _ (by omega), f _ (by omega) (by omega) (by omega)]
          exact c4 j j0 j1
        · rw [o _ (by omega), o _ (by omega), f _ (by omega) (by omega) (by omega), f _ (by omega) (by omega) (by omega)]
          exact c6 j j0 j1
    · rw [if_neg (by omega)]
      exact ⟨rfl, rfl, rfl, rfl⟩
theorem lp_drop15 {E : zE} {d : Nat} {k : Nat → Nat × Nat} {h : Nat → Int → Int} {r : Nat → Int → Option Nat} {l : Nat → Nat → Int64} {n : Nat} {Q : zQ} {np t : Int} (e0 : h 15 0 = np) (t0 : 0 ≤ t) (n8 : np ≤ 8) (hw : ∀ t : Int, 0 ≤ t → t < 8 → ∃ v c, r 16 t = some v ∧ zkF k v = (c, 2) ∧ zmem c [0, 1, 2, 5, 6, 7, 8, 10] = true ∧ v < n) (hX : ∀ g r9, (∀ q, ¬ q = 17 → ¬ q = 18 → ¬ q = 19 → g q = h q) ∧ (∀ q, ¬ q = 16 → r9 q = r q) ∧ (∀ s : Int, 0 ≤ s → s < 8 → r9 16 s = r 16 (if t ≤ s ∧ s < np - 1 then s + 1 else s) ∧ g 17 s = h 17 (if t ≤ s ∧ s < np - 1 then s + 1 else s) ∧ g 18 s = h 18 (if t ≤ s ∧ s < np - 1 then s + 1 else s) ∧ g 19 s = h 19 (if t ≤ s ∧ s < np - 1 then s + 1 else s)) → ∀ u, zGo E (d + 2) M_X3_dropPerson 0 0 Q 83 ([some (.ref 15), some (.int (iI (t))), some (.int u)], [], zJ (k, g, r9, l, n), 0, 0)) : ∀ c : Nat, ∀ (m : Nat) (g : Nat → Int → Int) (r9 : Nat → Int → Option Nat), (∀ q, ¬ q = 17 → ¬ q = 18 → ¬ q = 19 → g q = h q) ∧ (∀ q, ¬ q = 16 → r9 q = r q) ∧ (∀ s : Int, 0 ≤ s → s < 8 → r9 16 s = r 16 (if t ≤ s ∧ s < (m : Int) then s + 1 else s) ∧ g 17 s = h 17 (if t ≤ s ∧ s < (m : Int) then s + 1 else s) ∧ g 18 s = h 18 (if t ≤ s ∧ s < (m : Int) then s + 1 else s) ∧ g 19 s = h 19 (if t ≤ s ∧ s < (m : Int) then s + 1 else s)) → np < m + 1 + c → t ≤ m → m + 1 ≤ np → zGo E (d + 2) M_X3_dropPerson 0 0 Q 11 ([some (.ref 15), some (.int (iI (t))), some (.int (iI ((m : Int))))], [], zJ (k, g, r9, l, n), 0, 0) := by
  have ok := ok_X3_dropPerson
  intro c
  induction c with
  | zero =>
    intros
    omega
  | succ c ih =>
    intro m g r9 ⟨f, fr, ft⟩ g1 g2 g3
    have e9 : g 15 0 = np := by rw [f 15 (by omega) (by omega) (by omega)]; exact e0
    refine s_ldI2 ok rfl ?_
    refine s_ci ok rfl ?_
    refine s_add ok rfl ?_
    refine s_ldA0 ok rfl ?_
    refine s_getJ 0 ok rfl rfl rfl rfl ?_
    rw [e9]
    refine s_c_ge ok rfl ⟨by omega, by omega⟩ ⟨by omega, by omega⟩ (fun c18 => ?_) (fun c18 => ?_)
    · rw [show (m : Int) = np - 1 by omega] at ft ⊢
      exact hX g r9 ⟨f, fr, ft⟩ _
    · obtain ⟨v9, cv, hv1, hv2, hv3, -⟩ := hw (m + 1) (by omega) (by omega)
      obtain ⟨w1, w2, w3, w4⟩ := ft ((m : Int) + 1) (by omega) (by omega)
      rw [if_neg (by omega)] at w1 w2 w3 w4
      have hv : r9 16 ((m : Int) + 1) = some v9 := w1.trans hv1
      refine s_ldA0 ok rfl ?_
      refine s_getF ok rfl rfl rfl rfl ?_
      refine s_ldI2 ok rfl ?_
      refine s_ldA0 ok rfl ?_
      refine s_getF ok rfl rfl rfl rfl ?_
      refine s_ldI2 ok rfl ?_
      refine s_ci ok rfl ?_
      refine s_add ok rfl ?_
      refine s_aald ok rfl (by exact rfl) (by exact rfl) (by exact rfl) (by omega) (by omega) hv ?_
      refine s_aast ok rfl (by exact rfl) (by exact rfl) (by exact rfl) (by omega) (by omega) hv2 hv3 ?_
      refine s_ldA0 ok rfl ?_
      refine s_getF ok rfl rfl rfl rfl ?_
      refine s_ldI2 ok rfl ?_
      refine s_ldA0 ok rfl ?_
      refine s_getF ok rfl rfl rfl rfl ?_
      refine s_ldI2 ok rfl ?_
      refine s_ci ok rfl ?_
      refine s_add ok rfl ?_
      refine s_iald ok rfl (by exact rfl) (by exact rfl) (by omega) (by omega) ?_
      rw [w2]
      refine s_iast ok rfl (by exact rfl) (by exact rfl) (by omega) (by omega) (fun q => by cases q) ?_
      refine s_ldA0 ok rfl ?_
      refine s_getF ok rfl rfl rfl rfl ?_
      refine s_ldI2 ok rfl ?_
      refine s_ldA0 ok rfl ?_
      refine s_getF ok rfl rfl rfl rfl ?_
      refine s_ldI2 ok rfl ?_
      refine s_ci ok rfl ?_
      refine s_add ok rfl ?_
      refine s_iald ok rfl (by exact rfl) (by exact rfl) (by omega) (by omega) ?_
      rw [show zv g 17 (m : Int) (h 17 ((m : Int) + 1)) 18 ((m : Int) + 1) = h 18 ((m : Int) + 1) from (congrFun (zv_other (by omega)) _).trans w3]
      refine s_iast ok rfl (by exact rfl) (by exact rfl) (by omega) (by omega) (fun q => by cases q) ?_
      refine s_ldA0 ok rfl ?_
      refine s_getF ok rfl rfl rfl rfl ?_
      refine s_ldI2 ok rfl ?_
      refine s_ldA0 ok rfl ?_
      refine s_getF ok rfl rfl rfl rfl ?_
      refine s_ldI2 ok rfl ?_
      refine s_ci ok rfl ?_
      refine s_add ok rfl ?_
      refine s_iald ok rfl (by exact rfl) (by exact rfl) (by omega) (by omega) ?_
      rw [show zv (zv g 17 (m : Int) (h 17 ((m : Int) + 1))) 18 (m : Int) (h 18 ((m : Int) + 1)) 19 ((m : Int) + 1) = h 19 ((m : Int) + 1) from (congrFun (zv_other (by omega)) _).trans ((congrFun (zv_other (by omega)) _).trans w4)]
      refine s_iast ok rfl (by exact rfl) (by exact rfl) (by omega) (by omega) (fun q => by cases q) ?_
      refine s_inc2 ok rfl rfl ?_
      refine s_goto ok rfl ?_
      refine ih (m + 1) _ _ ⟨fun q h2 h3 h4 => ?_, fun q hq => ?_, fun s s0 s1 => ?_⟩ (by omega) (by omega) (by omega)
      · rw [zv_other h4, zv_other h3, zv_other h2]
        exact f q h2 h3 h4
      · rw [zv_other hq]
        exact fr q hq
      · have x2 : zv (zv (zv g 17 (m : Int) (h 17 ((m : Int) + 1))) 18 (m : Int) (h 18 ((m : Int) + 1))) 19 (m : Int) (h 19 ((m : Int) + 1)) 17 = zv g 17 (m : Int) (h 17 ((m : Int) + 1)) 17 := by rw [zv_other (by omega), zv_other (by omega)]
        have x3 : zv (zv (zv g 17 (m : Int) (h 17 ((m : Int) + 1))) 18 (m : Int) (h 18 ((m : Int) + 1))) 19 (m : Int) (h 19 ((m : Int) + 1)) 18 = zv (zv g 17 (m : Int) (h 17 ((m : Int) + 1))) 18 (m : Int) (h 18 ((m : Int) + 1)) 18 := by rw [zv_other (by omega)]
        rw [x2, x3]
        by_cases e : s = m
        · rw [if_pos (by omega), e, zv_is, zv_is, zv_is, zv_is]
          exact ⟨hv1.symm, rfl, rfl, rfl⟩
        · obtain ⟨q1, q2, q3, q4⟩ := ft s s0 s1
          rw [zv_at e, zv_at e, zv_at e, zv_at e, zv_other (by omega), zv_other (by omega), zv_other (by omega)]
          have es : (if t ≤ s ∧ s < ((m + 1 : Nat) : Int) then s + 1 else s) = if t ≤ s ∧ s < (m : Int) then s + 1 else s := by
            by_cases c : t ≤ s ∧ s < (m : Int)
            · rw [if_pos c, if_pos (by omega)]
            · rw [if_neg c, if_neg (by omega)]
          rw [es]
          exact ⟨q1, q2, q3, q4⟩
theorem ct_drop15 {E : zE} {d : Nat} {k : Nat → Nat × Nat} {h : Nat → Int → Int} {r : Nat → Int → Option Nat} {l : Nat → Nat → Int64} {n : Nat} {p : Int → Int} (hR : cR 15 16 17 18 19 20 21 22 23 24 k h r n p (-4)) {t : Int} (t0 : 0 ≤ t) (t1 : t < p 6) (p68 : p 6 ≤ 8) : zCT E (d + 2) M_X3_dropPerson [.ref 15, .int (iI (t))] (zJ (k, h, r, l, n)) 0 0 (zUx (fun s => ∃ g r9, s = zJ (k, g, r9, l, n) ∧ (∀ q : Nat, q < 15 ∨ 24 < q → g q = h q) ∧ (∀ q, ¬ q = 16 → r9 q = r q) ∧ cR 15 16 17 18 19 20 21 22 23 24 k g r9 n p t)) := by
  have ok := ok_X3_dropPerson
  refine zCT_of pn_X3_dropPerson (Nat.le_of_ble_eq_true rfl) ?_
  show zGo _ _ _ _ _ _ 0 ([some (.ref 15), some (.int (iI (t))), none], [], _, _, _)
  have e6 : h 15 0 = p 6 := by have := hR.1.1; rw [cnP_4] at this; exact this
  refine s_ldA0 ok rfl ?_
  refine s_ldI1 ok rfl ?_
  refine s_callV ok rfl rfl rfl rfl rfl rfl (ct_isPerson15 e6 (by omega) p68 ⟨by omega, by omega⟩) ?_
  refine s_if_eq ok rfl zif01 (fun c5 => ?_) (fun c5 => ?_)
  · exact absurd (And.intro t0 t1) (zif_f c5)
  · refine s_ldI1 ok rfl ?_
    refine s_stI2 ok rfl rfl ?_
    refine zgo_eq ?_ (lp_drop15 (E := E) (d := d) (k := k) (r := r) (l := l) (n := n) (h := h) e6 t0 p68 hR.2.2.1 (fun g r9 ⟨f, fr, ft⟩ u => ?_) (p 6).toNat t.toNat h r ⟨fun q _ _ _ => rfl, fun q _ => rfl, fun s s0 s1 => ?_⟩ (by omega) (by omega) (by omega))
    · rw [show ((t.toNat : Nat) : Int) = t by omega]
    · have g6 : g 15 0 = p 6 := by rw [f 15 (by omega) (by omega) (by omega)]; exact e6
      refine s_ldA0 ok rfl ?_
      refine s_dupA ok rfl ?_
      refine s_getJ 0 ok rfl rfl rfl rfl ?_
      rw [g6]
      refine s_ci ok rfl ?_
      refine s_sub ok rfl ?_
      refine s_putJ 0 ok rfl rfl rfl rfl (fun q => by cases q) ?_
      refine s_retV ok rfl ⟨rfl, _, r9, rfl, fun q hq => ?_, fr, ?_⟩
      · rw [zv_other (by omega)]
        exact f q (by omega) (by omega) (by omega)
      · have fw : fW k h (zv g 15 0 (p 6 - 1)) := fW_fix fun q hq => by
          rw [zv_other (by omega)]
          exact f q (by omega) (by omega) (by omega)
        have ec : cnP p t = p 6 - 1 := if_pos ⟨t0, t1⟩
        have o : ∀ q, ¬ q = 15 → zv g 15 0 (p 6 - 1) q = g q := fun q hq => zv_other hq
        obtain ⟨⟨c0, c5⟩, c1, c2, c3, c4, c6⟩ := hR
        rw [cnP_4] at c1
        unfold cR
        rw [ec]
        refine ⟨⟨zv_is, ?_⟩, fun s s0 s1 => ?_, fun s s0 s1 => ?_, fun x x0 x1 => ?_, fun j j0 j1 => ?_, fun j j0 j1 => ?_⟩
        · rw [zv_at (by omega), f 15 (by omega) (by omega) (by omega)]; exact c5
        · obtain ⟨q1, q2, q3, q4⟩ := ft s s0 (by omega)
          have es : (if t ≤ s ∧ s < p 6 - 1 then s + 1 else s) = sg t s := by
            unfold sg
            by_cases c : t ≤ s
            · rw [if_pos ⟨c, s1⟩, if_pos ⟨t0, c⟩]
            · rw [if_neg (fun z => c z.1), if_neg (fun z => c z.2)]
          rw [es] at q1 q2 q3 q4
          have g0 := sg_in (w := t) s0
          have g1 : sg t s < p 6 := by unfold sg; split <;> omega
          obtain ⟨u, u1, u2, u3, u4, u5⟩ := c1 (sg t s) g0 g1
          rw [sg_4] at u2 u3 u4 u5
          rw [o _ (by omega), o _ (by omega), o _ (by omega), q1, q2, q3, q4]
          exact ⟨u, u1, wk_fr u2 fw, u3, u4, u5⟩
        · obtain ⟨q1, -⟩ := ft s s0 s1
          rw [q1]
          by_cases c : t ≤ s ∧ s < p 6 - 1
          · rw [if_pos c]
            exact c2 (s + 1) (by omega) (by omega)
          · rw [if_neg c]
            exact c2 s s0 s1
        · rw [o _ (by omega), o _ (by omega), o _ (by omega), f _ (by omega) (by omega) (by omega), f _ (by omega) (by omega) (by omega), f _ (by omega) (by omega) (by omega)]
          exact c3 x x0 x1
        · rw [o _ (by omega), f _ (by omega) (by omega) (by omega)]
          exact c4 j j0 j1
        · rw [o _ (by omega), o _ (by omega), f _ (by omega) (by omega) (by omega), f _ (by omega) (by omega) (by omega)]
          exact c6 j j0 j1
    · rw [if_neg (by omega)]
      exact ⟨rfl, rfl, rfl, rfl⟩
theorem cR_sLv {P a1 a2 a3 a4 a5 a6 a7 a8 a9 : Nat} {k : Nat → Nat × Nat} {h : Nat → Int → Int} {r : Nat → Int → Option Nat} {n : Nat} {p : Int → Int} {t : Int} (c : cR P a1 a2 a3 a4 a5 a6 a7 a8 a9 k h r n p t) (t0 : 0 ≤ t) (t1 : t < p 6) (t4 : p 0 ≤ 4) : cR P a1 a2 a3 a4 a5 a6 a7 a8 a9 k h r n (sLv p t (5 * (p 6 - 1))) (-4) := by
  obtain ⟨⟨c0, c5⟩, c1, c2, c3, c4, c6⟩ := c
  have ec : cnP p t = p 6 - 1 := if_pos ⟨t0, t1⟩
  rw [ec] at c0 c1
  have lo : ∀ j, ¬ j = 6 → j < 19 → sLv p t (5 * (p 6 - 1)) j = p j := fun j h1 h2 => by
    unfold sLv
    rw [if_neg h1, if_neg (by omega)]
  have e6 : sLv p t (5 * (p 6 - 1)) 6 = p 6 - 1 := if_pos rfl
  unfold cR
  rw [cnP_4, e6]
  have pe : ∀ s f : Int, 0 ≤ s → s < p 6 - 1 → 0 ≤ f → f < 5 → sLv p t (5 * (p 6 - 1)) (19 + 5 * s + f) = p (19 + 5 * sg t s + f) := fun s f s0 s1 f0 f1 => by
    unfold sLv sg
    rw [if_neg (by omega)]
    by_cases c : t ≤ s
    · rw [if_pos (by omega), if_pos ⟨t0, c⟩]
      congr 1
      omega
    · rw [if_neg (by omega), if_neg (fun z => c z.2)]
  refine ⟨⟨c0, by rw [lo 0 (by omega) (by omega)]; exact c5⟩, fun s s0 s1 => ?_, c2, fun x x0 x1 => ?_, c4, fun j j0 j1 => ?_⟩
  · obtain ⟨u, u1, u2, u3, u4, u5⟩ := c1 s s0 s1
    have pe0 := pe s 0 s0 s1 (by omega) (by omega)
    rw [Int.add_zero, Int.add_zero] at pe0
    rw [sg_4]
    unfold pK pF pFr pTo pBa at *
    rw [pe0, pe s 1 s0 s1 (by omega) (by omega), pe s 2 s0 s1 (by omega) (by omega), pe s 3 s0 s1 (by omega) (by omega), pe s 4 s0 s1 (by omega) (by omega)]
    exact ⟨u, u1, u2, u3, u4, u5⟩
  · rw [lo 0 (by omega) (by omega)] at x1
    rw [lo _ (by omega) (by omega), lo _ (by omega) (by omega), lo _ (by omega) (by omega)]
    exact c3 x x0 x1
  · rw [lo _ (by omega) (by omega), lo _ (by omega) (by omega)]
    exact c6 j j0 j1
theorem zmod_b {m c : Int} (m0 : 0 ≤ m) (m1 : m < 16) (c0 : 0 ≤ c) (c1 : c < 4) : zsb (m % z2 c) c = m % z2 c + z2 c ∧ (zbt m c = 1 → m % z2 (c + 1) = m % z2 c + z2 c) ∧ (zbt m c = 0 → m % z2 (c + 1) = m % z2 c) ∧ (0 ≤ m % z2 c ∧ m % z2 c < 16) := by
  have e0 : z2 0 = 1 := rfl
  have e1 : z2 1 = 2 := rfl
  have e2 : z2 2 = 4 := rfl
  have e3 : z2 3 = 8 := rfl
  have f1 : z2 (0 + 1) = 2 := rfl
  have f2 : z2 (1 + 1) = 4 := rfl
  have f3 : z2 (2 + 1) = 8 := rfl
  have f4 : z2 (3 + 1) = 16 := rfl
  rcases (by omega : c = 0 ∨ c = 1 ∨ c = 2 ∨ c = 3) with q | q | q | q
  · subst q
    unfold zsb zbt
    rw [e0, f1]
    refine ⟨by rw [if_pos (by omega)], by omega, by omega, by omega⟩
  · subst q
    unfold zsb zbt
    rw [e1, f2]
    refine ⟨by rw [if_pos (by omega)], by omega, by omega, by omega⟩
  · subst q
    unfold zsb zbt
    rw [e2, f3]
    refine ⟨by rw [if_pos (by omega)], by omega, by omega, by omega⟩
  · subst q
    unfold zsb zbt
    rw [e3, f4]
    refine ⟨by rw [if_pos (by omega)], by omega, by omega, by omega⟩
theorem lp_cbits {E : zE} {d : Nat} {k : Nat → Nat × Nat} {h : Nat → Int → Int} {r : Nat → Int → Option Nat} {l : Nat → Nat → Int64} {n : Nat} {Q : zQ} {p : Int → Int} (e5 : h 4 5 = p 0) (tr : ∀ x : Int, 0 ≤ x → x < p 0 → h 11 x = zbt (p 1) x) (p0 : 0 ≤ p 0) (t4 : p 0 ≤ 4) (m0 : 0 ≤ p 1) (m1 : p 1 < z2 (p 0)) (m16 : p 1 < 16) (hQ : Q (some (.int (iI (p 1)))) (zJ (k, h, r, l, n))) : ∀ c : Nat, ∀ m : Nat, p 0 < m + c → m ≤ p 0 → zGo E d M_X3_cancelledBits 0 0 Q 4 ([some (.ref 4), some (.int (iI (p 1 % z2 m))), some (.int (iI ((m : Int))))], [], zJ (k, h, r, l, n), 0, 0) := by
  have ok := ok_X3_cancelledBits
  intro c
  induction c with
  | zero =>
    intros
    omega
  | succ c ih =>
    intro m g1 g2
    have b01 := zbt_01 (p 1) (m : Int)
    refine s_ldI2 ok rfl ?_
    refine s_ldA0 ok rfl ?_
    refine s_getJ 5 ok rfl rfl rfl rfl ?_
    rw [e5]
    refine s_c_ge ok rfl ⟨by omega, by omega⟩ ⟨by omega, by omega⟩ (fun c9 => ?_) (fun c9 => ?_)
    · refine s_ldI1 ok rfl ?_
      refine s_retI ok rfl (by rw [show (m : Int) = p 0 by omega, Int.emod_eq_of_lt m0 m1]; exact hQ)
    · obtain ⟨y1, y2, y3, y4⟩ := zmod_b (m := p 1) (c := (m : Int)) m0 m16 (by omega) (by omega)
      refine s_ldA0 ok rfl ?_
      refine s_getF ok rfl rfl rfl rfl ?_
      refine s_ldI2 ok rfl ?_
      refine s_iald ok rfl (by exact rfl) (by exact rfl) (by omega) (by omega) ?_
      rw [tr m (by omega) (by omega)]
      refine s_if_eq ok rfl (by rcases b01 with e | e <;> rw [e] <;> exact ⟨by omega, by omega⟩) (fun c18 => ?_) (fun c18 => ?_)
      · refine s_inc2 ok rfl rfl ?_
        refine s_goto ok rfl ?_
        have hh := ih (m + 1) (by omega) (by omega)
        rw [show ((m + 1 : Nat) : Int) = (m : Int) + 1 by omega] at hh
        first
          | (rw [y3 c18] at hh; exact hh)
          | (rw [y2 (b01.resolve_left c18), ← y1] at hh; exact hh)
      · refine s_ldI1 ok rfl ?_
        refine s_ci ok rfl ?_
        refine s_ldI2 ok rfl ?_
        refine s_bin ok rfl (zshl (by omega) (by omega)) ?_
        refine s_bin ok rfl ((zob y4.1 (by omega) (by omega) (by omega)).1) ?_
        refine s_stI1 ok rfl rfl ?_
        refine s_inc2 ok rfl rfl ?_
        refine s_goto ok rfl ?_
        have hh := ih (m + 1) (by omega) (by omega)
        rw [show ((m + 1 : Nat) : Int) = (m : Int) + 1 by omega] at hh
        first
          | (rw [y3 c18] at hh; exact hh)
          | (rw [y2 (b01.resolve_left c18), ← y1] at hh; exact hh)
theorem ct_cbits {E : zE} {d : Nat} {k : Nat → Nat × Nat} {h : Nat → Int → Int} {r : Nat → Int → Option Nat} {l : Nat → Nat → Int64} {n : Nat} {p : Int → Int} (e5 : h 4 5 = p 0) (tr : ∀ x : Int, 0 ≤ x → x < p 0 → h 11 x = zbt (p 1) x) (p0 : 0 ≤ p 0) (t4 : p 0 ≤ 4) (m0 : 0 ≤ p 1) (m1 : p 1 < z2 (p 0)) : zCT E d M_X3_cancelledBits [.ref 4] (zJ (k, h, r, l, n)) 0 0 (zV (.int (iI (p 1))) (zJ (k, h, r, l, n))) := by
  have ok := ok_X3_cancelledBits
  refine zCT_of pn_X3_cancelledBits (Nat.le_of_ble_eq_true rfl) ?_
  show zGo _ _ _ _ _ _ 0 ([some (.ref 4), none, none], [], _, _, _)
  refine s_ci ok rfl ?_
  refine s_stI1 ok rfl rfl ?_
  refine s_ci ok rfl ?_
  refine s_stI2 ok rfl rfl ?_
  have m16 : p 1 < 16 := by
    obtain ⟨e0, e1, e2, e3, e4⟩ := z2v
    rcases (by omega : p 0 = 0 ∨ p 0 = 1 ∨ p 0 = 2 ∨ p 0 = 3 ∨ p 0 = 4) with q | q | q | q | q <;> rw [q] at m1 <;> omega
  refine zgo_eq ?_ (lp_cbits (E := E) (d := d) (k := k) (r := r) (l := l) (n := n) (h := h) e5 tr p0 t4 m0 m1 m16 (Q := zV (.int (iI (p 1))) (zJ (k, h, r, l, n))) ⟨rfl, rfl⟩ 6 0 (by omega) (by omega))
  rw [show p 1 % z2 ((0 : Nat) : Int) = 0 from Int.emod_one _]
  try rfl
def zs4 (h : Nat → Int → Int) : Nat → Int
  | 0 => 0
  | c + 1 => zs4 h c + h 12 c
theorem lp_allRuns {E : zE} {d : Nat} {k : Nat → Nat × Nat} {h : Nat → Int → Int} {r : Nat → Int → Option Nat} {l : Nat → Nat → Int64} {n : Nat} {Q : zQ} (hQ : Q (some (.int (iI (zs4 h 4)))) (zJ (k, h, r, l, n))) : ∀ c : Nat, ∀ (m : Nat) (u : Option Value), 4 < m + c → m ≤ 4 → zGo E d M_X3_allRuns 0 0 Q 13 ([some (.ref 4), some (.int (iI (zs4 h m))), some (.ref 12), some (.int (iI (4))), some (.int (iI ((m : Int)))), u], [], zJ (k, h, r, l, n), 0, 0) := by
  have ok := ok_X3_allRuns
  intro c
  induction c with
  | zero =>
    intros
    omega
  | succ c ih =>
    intro m u g1 g2
    refine s_ldI4 ok rfl ?_
    refine s_ldI3 ok rfl ?_
    refine s_c_ge ok rfl ⟨by omega, by omega⟩ ⟨by omega, by omega⟩ (fun c16 => ?_) (fun c16 => ?_)
    · refine s_ldI1 ok rfl ?_
      refine s_retI ok rfl (by rw [show m = 4 by omega]; exact hQ)
    · refine s_ldA2 ok rfl ?_
      refine s_ldI4 ok rfl ?_
      refine s_iald ok rfl (by exact rfl) (by exact rfl) (by omega) (by omega) ?_
      refine s_stI5 ok rfl rfl ?_
      refine s_ldI1 ok rfl ?_
      refine s_ldI5 ok rfl ?_
      refine s_add ok rfl ?_
      refine s_stI1 ok rfl rfl ?_
      refine s_inc4 ok rfl rfl ?_
      refine s_goto ok rfl ?_
      exact ih (m + 1) _ (by omega) (by omega)
theorem ct_allRuns {E : zE} {d : Nat} {k : Nat → Nat × Nat} {h : Nat → Int → Int} {r : Nat → Int → Option Nat} {l : Nat → Nat → Int64} {n : Nat}  : zCT E d M_X3_allRuns [.ref 4] (zJ (k, h, r, l, n)) 0 0 (zV (.int (iI (h 12 0 + h 12 1 + h 12 2 + h 12 3))) (zJ (k, h, r, l, n))) := by
  have ok := ok_X3_allRuns
  refine zCT_of pn_X3_allRuns (Nat.le_of_ble_eq_true rfl) ?_
  show zGo _ _ _ _ _ _ 0 ([some (.ref 4), none, none, none, none, none], [], _, _, _)
  refine s_ci ok rfl ?_
  refine s_stI1 ok rfl rfl ?_
  refine s_ldA0 ok rfl ?_
  refine s_getF ok rfl rfl rfl rfl ?_
  refine s_stA2 ok rfl rfl ?_
  refine s_ldA2 ok rfl ?_
  refine s_alen ok rfl rfl ?_
  rw [show (((4 : Nat)) : Int) = (4 : Int) from rfl]
  refine s_stI3 ok rfl rfl ?_
  refine s_ci ok rfl ?_
  refine s_stI4 ok rfl rfl ?_
  exact lp_allRuns (E := E) (d := d) (k := k) (r := r) (l := l) (n := n) (h := h) (Q := zV (.int (iI (h 12 0 + h 12 1 + h 12 2 + h 12 3))) (zJ (k, h, r, l, n))) ⟨congrArg (fun z => some (Value.int (iI z))) (by show 0 + h 12 0 + h 12 1 + h 12 2 + h 12 3 = _; omega), rfl⟩ 5 0 none (by omega) (by omega)
