/-! what the trip tells -/
def tD (p : Int → Int) (w dd : Int) (g : Nat → Int → Int) : Prop := (∀ t : Int, 0 ≤ t → t < cnP p w → g 44 t = (if dN p w dd 69 (sg w t) < 0 then -1 else dN p w dd 69 (sg w t)) ∧ (0 ≤ dN p w dd 69 (sg w t) → g 45 t = dN p w dd 70 (sg w t) ∧ g 46 t = dN p w dd 71 (sg w t) ∧ 1 ≤ dN p w dd 71 (sg w t) ∧ dN p w dd 69 (sg w t) < 3 * p 0) ∧ (dN p w dd 69 (sg w t) < 0 → dN p w dd 71 (sg w t) < 0) ∧ g 47 t = dN p w dd 74 (sg w t) ∧ g 48 t = dN p w dd 72 (sg w t) ∧ pcI (dN p w dd 72 (sg w t)) = dN p w dd 73 (sg w t) ∧ (0 ≤ dN p w dd 72 (sg w t) ∧ dN p w dd 72 (sg w t) < 4096)) ∧ (0 ≤ w → w < p 6 → dN p w dd 69 w < 0 ∧ dN p w dd 71 w < 0) ∧ ∀ y : Int, 0 ≤ y → y < 3 * p 0 → y % 3 < dd → g 51 y = dN p w dd 66 y ∧ ∀ b : Int, 0 ≤ b → b < 5 → g 49 (5 * y + b) = dN p w dd 67 (5 * y + b) ∧ (w = -4 → g 50 (5 * y + b) = dN p w dd 68 (5 * y + b))
theorem tD_of {p : Int → Int} {w dd : Int} {g : Nat → Int → Int} (hp : pOK p) (hw : w = -4 ∨ (0 ≤ w ∧ w < p 6)) (hft : ∀ q : Int, 0 ≤ q → q < p 6 → pFr p q < pTo p q) (tt : tT p w dd g (dFF p w dd)) (sa : sA p dd 5 (dFF p w dd)) : tD p w dd g := by
  have p68 := hp.2.2.2.2.2.2.2.2.2.2.2.2.2.1
  have zw : zb w := ⟨by omega, by omega⟩
  have e := dFF_is (dd := dd) hp zw
  have hd := dC_ok (dd := dd) hp zw
  have hb := dZ_beg hd
  obtain ⟨-, z60, -⟩ := sFF_ok 5 (by omega) hb.1
  rw [hb.2 60 (by omega), dC_60] at z60
  have z60 : dFF p w dd 60 = p := z60
  have dn := (dN_ok (dd := dd) hp zw).2.2.2.1
  have d := dQy_dN (dd := dd) hp zw hft
  have eP : ∀ n : Nat, 69 ≤ n → n ≤ 74 → ∀ q : Int, 0 ≤ q → q < p 6 → dN p w dd n q = dFF p w dd n q := fun n n0 n1 q q0 q1 => e.2.2.2.1 n n0 n1 q q0 (by rw [z60]; exact q1)
  have eT : ∀ n : Nat, 63 ≤ n → n ≤ 66 → ∀ y : Int, 0 ≤ y → y < 3 * p 0 → dN p w dd n y = dFF p w dd n y := fun n n0 n1 y y0 y1 => e.2.2.1 n n0 n1 y y0 (by rw [z60]; exact y1)
  have e63 : ∀ y : Int, 0 ≤ y → y < 3 * p 0 → dFF p w dd 63 y = 5 := fun y y0 y1 => by
    by_cases c : y % 3 < dd
    · exact (sa y y0 y1).1 c
    · exact (sa y y0 y1).2 c
  refine ⟨fun t t0 t1 => ?_, fun w0 w1 => ?_, fun y y0 y1 y2 => ?_⟩
  · obtain ⟨s0, s1, -⟩ := sg_lt (p := p) t0 t1
    obtain ⟨a1, a2, a3, a4, a5, a6⟩ := tt.1.2 t t0 t1
    obtain ⟨i1, i2, i3, i4, i5, i6⟩ := d.2 _ s0 s1
    have o := pOf_gt hp s0 (by omega) (hft _ s0 s1)
    rw [← eP 69 (by omega) (by omega) _ s0 s1, ← eP 70 (by omega) (by omega) _ s0 s1] at a2
    rw [← eP 69 (by omega) (by omega) _ s0 s1, ← eP 71 (by omega) (by omega) _ s0 s1] at a3
    rw [← eP 69 (by omega) (by omega) _ s0 s1] at a1
    rw [← eP 74 (by omega) (by omega) _ s0 s1] at a4
    rw [← eP 72 (by omega) (by omega) _ s0 s1] at a5
    refine ⟨a1, fun z => ?_, fun z => ?_, a4, a5, i5, dn _ s0 (by omega)⟩
    · have n : 0 ≤ dN p w dd 71 (sg w t) := by
        by_cases c : dN p w dd 71 (sg w t) < 0
        · have := i1 z c
          rw [eT 63 (by omega) (by omega) _ z i3, e63 _ z i3] at this
          omega
        · omega
      exact ⟨a2 z, a3 z n, (i2 n).1, i3⟩
    · by_cases c : dN p w dd 71 (sg w t) < 0
      · exact c
      · have := i2 (by omega)
        omega
  · have i := d.2 w w0 w1
    have i4 := i.2.2.2.1 rfl
    refine ⟨i4, ?_⟩
    by_cases c : dN p w dd 71 w < 0
    · exact c
    · have := i.2.1 (by omega)
      omega
  · obtain ⟨a1, a2, a3⟩ := tt.2.2 y y0 y1 y2
    have f := e63 y y0 y1
    refine ⟨a1.trans (eT 66 (by omega) (by omega) y y0 y1).symm, fun b b0 b1 => ?_⟩
    have g1 := a3 b b0 (by omega)
    have h1 := e.2.2.2.2 67 (by omega) y b y0 (by rw [z60]; exact y1) b0 (by omega)
    have h2 := e.2.2.2.2 68 (by omega) y b y0 (by rw [z60]; exact y1) b0 (by omega)
    exact ⟨g1.1.trans h1.symm, fun w4 => (g1.2 w4).trans h2.symm⟩
/-- the minute of arrival, as the trip holds it -/
def tA (g : Nat → Int → Int) (t : Int) : Int := if g 44 t = -1 then 2000 else g 46 t
def tO (g : Nat → Int → Int) (t : Int) : Int := if g 44 t = -1 then 0 else 1
def tL (g : Nat → Int → Int) (t : Int) : Int := if g 44 t = -1 then 0 else g 46 t
theorem tD_a {p : Int → Int} {w dd t : Int} {g : Nat → Int → Int} (d : tD p w dd g) (t0 : 0 ≤ t) (t1 : t < cnP p w) : tA g t = zAr (dN p w dd) (sg w t) ∧ tO g t = zOn (dN p w dd) (sg w t) ∧ tL g t = (if dN p w dd 71 (sg w t) < 0 then 0 else dN p w dd 71 (sg w t)) ∧ (g 44 t = -1 ↔ dN p w dd 71 (sg w t) < 0) := by
  obtain ⟨a1, a2, a3, -⟩ := d.1 t t0 t1
  unfold tA tO tL zAr zOn
  rw [a1]
  by_cases c : dN p w dd 69 (sg w t) < 0
  · have := a3 c
    rw [if_pos c, if_pos rfl, if_pos rfl, if_pos rfl, if_pos this, if_neg (by omega), if_pos this]
    exact ⟨rfl, rfl, rfl, fun _ => this, fun _ => rfl⟩
  · obtain ⟨b1, b2, b3, b4⟩ := a2 (by omega)
    have n1 : ¬ dN p w dd 69 (sg w t) = -1 := by omega
    have n2 : ¬ dN p w dd 71 (sg w t) < 0 := by omega
    have n3 : 0 ≤ dN p w dd 71 (sg w t) := by omega
    rw [if_neg c, if_neg n1, if_neg n1, if_neg n1, if_neg n2, if_neg n2, if_pos n3]
    exact ⟨b2, rfl, b2, fun z => by omega, fun z => by omega⟩
theorem ct_arrivalOf {E : zE} {d : Nat} {k : Nat → Nat × Nat} {h : Nat → Int → Int} {r : Nat → Int → Option Nat} {l : Nat → Nat → Int64} {n : Nat} {t : Int} (t0 : 0 ≤ t) (t1 : t < 8) (z : zb (h 44 t)) : zCT E (d + 1) M_X9_arrivalOf [.ref 37, .int (iI (t))] (zJ (k, h, r, l, n)) 0 0 (zV (.int (iI (tA h t))) (zJ (k, h, r, l, n))) := by
  have ok := ok_X9_arrivalOf
  refine zCT_of pn_X9_arrivalOf (Nat.le_of_ble_eq_true rfl) ?_
  show zGo _ _ _ _ _ _ 0 ([some (.ref 37), some (.int (iI (t)))], [], _, _, _)
  refine s_ldA0 ok rfl ?_
  refine s_ldI1 ok rfl ?_
  refine s_callV ok rfl rfl rfl rfl rfl rfl (ct_arrives9 t0 t1 z) ?_
  refine s_if_eq ok rfl zif10 (fun c5 => ?_) (fun c5 => ?_)
  · refine s_ci ok rfl ?_
    refine s_retI ok rfl ⟨congrArg (fun z => some (Value.int (iI z))) (by unfold tA; first | exact (if_pos (zif_n c5)).symm | exact (if_neg (zif_m c5)).symm), rfl⟩
  · refine s_ldA0 ok rfl ?_
    refine s_getF ok rfl rfl rfl rfl ?_
    refine s_ldI1 ok rfl ?_
    refine s_iald ok rfl (by exact rfl) (by exact rfl) (by omega) (by omega) ?_
    refine s_goto ok rfl ?_
    refine s_retI ok rfl ⟨congrArg (fun z => some (Value.int (iI z))) (by unfold tA; first | exact (if_pos (zif_n c5)).symm | exact (if_neg (zif_m c5)).symm), rfl⟩
theorem ct_missedBy {E : zE} {d : Nat} {k : Nat → Nat × Nat} {h : Nat → Int → Int} {r : Nat → Int → Option Nat} {l : Nat → Nat → Int64} {n : Nat} {t : Int} (t0 : 0 ≤ t) (t1 : t < 8) (m0 : 0 ≤ h 48 t) (m1 : h 48 t < 4096) : zCT E (d + 1) M_X9_missedBy [.ref 37, .int (iI (t))] (zJ (k, h, r, l, n)) 0 0 (zV (.int (iI (pcI (h 48 t)))) (zJ (k, h, r, l, n))) := by
  have ok := ok_X9_missedBy
  refine zCT_of pn_X9_missedBy (Nat.le_of_ble_eq_true rfl) ?_
  show zGo _ _ _ _ _ _ 0 ([some (.ref 37), some (.int (iI (t)))], [], _, _, _)
  refine s_ldA0 ok rfl ?_
  refine s_getF ok rfl rfl rfl rfl ?_
  refine s_ldI1 ok rfl ?_
  refine s_iald ok rfl (by exact rfl) (by exact rfl) (by omega) (by omega) ?_
  refine s_callS ok rfl rfl rfl rfl (ct_bitCount m0 m1) ?_
  refine s_retI ok rfl ⟨congrArg (fun z => some (Value.int (iI z))) (by first | rfl | omega | (simp only []; omega)), rfl⟩
theorem zmxs_zb2 {f : Int → Int} : ∀ n : Nat, (∀ j : Int, 0 ≤ j → j < n → zb (f j)) → zb (zmxs f n)
  | 0, _ => ⟨by simp [zmxs], by simp [zmxs]⟩
  | n + 1, h => by
    have i := zmxs_zb2 n (fun j j0 j1 => h j j0 (by omega))
    have b := h n (by omega) (by omega)
    show zb (max (zmxs f n) (f n))
    obtain ⟨i1, i2⟩ := i
    obtain ⟨b1, b2⟩ := b
    exact ⟨by omega, by omega⟩
theorem zmxs_0 {f : Int → Int} : ∀ n : Nat, 0 ≤ zmxs f n
  | 0 => Int.le_refl _
  | n + 1 => by
    have i := zmxs_0 (f := f) n
    show 0 ≤ max (zmxs f n) (f n)
    omega
theorem lp_arriving9 {E : zE} {d : Nat} {k : Nat → Nat × Nat} {h : Nat → Int → Int} {r : Nat → Int → Option Nat} {l : Nat → Nat → Int64} {n : Nat} {cn : Nat} (e37 : h 37 6 = (cn : Int)) (c8 : cn ≤ 8) (hz : ∀ t : Int, 0 ≤ t → t < (cn : Int) → zb (h 44 t)) : ∀ c : Nat, ∀ m : Nat, cn < m + c → m ≤ cn → zGo E (d + 1) M_X9_arriving 0 0 (zV (.int (iI (zsum (tO h) cn))) (zJ (k, h, r, l, n))) 4 ([some (.ref 37), some (.int (iI (zsum (tO h) m))), some (.int (iI ((m : Int))))], [], zJ (k, h, r, l, n), 0, 0) := by
  have ok := ok_X9_arriving
  intro c
  induction c with
  | zero =>
    intros
    omega
  | succ c ih =>
    intro m g1 g2
    refine s_ldI2 ok rfl ?_
    refine s_ldA0 ok rfl ?_
    refine s_getJ 6 ok rfl rfl rfl rfl ?_
    rw [e37]
    refine s_c_ge ok rfl ⟨by omega, by omega⟩ ⟨by omega, by omega⟩ (fun c9 => ?_) (fun c9 => ?_)
    · refine s_ldI1 ok rfl ?_
      refine s_retI ok rfl ⟨by rw [show m = cn by omega], rfl⟩
    · refine s_ldA0 ok rfl ?_
      refine s_ldI2 ok rfl ?_
      refine s_callV ok rfl rfl rfl rfl rfl rfl (ct_arrives9 (by omega) (by omega) (hz m (by omega) (by omega))) ?_
      refine s_if_eq ok rfl zif10 (fun c17 => ?_) (fun c17 => ?_)
      · refine s_inc2 ok rfl rfl ?_
        refine s_goto ok rfl ?_
        have nx := ih (m + 1) (by omega) (by omega)
        have es : zsum (tO h) (m + 1) = zsum (tO h) m + tO h m := rfl
        first
          | (have c : h 44 (m : Int) = -1 := zif_n c17
             have e0 : tO h (m : Int) = 0 := if_pos c
             rw [es, e0, Int.add_zero] at nx
             exact nx)
          | (have c : ¬ h 44 (m : Int) = -1 := zif_m c17
             have e0 : tO h (m : Int) = 1 := if_neg c
             rw [es, e0] at nx
             exact nx)
      · refine s_inc1 ok rfl rfl ?_
        refine s_inc2 ok rfl rfl ?_
        refine s_goto ok rfl ?_
        have nx := ih (m + 1) (by omega) (by omega)
        have es : zsum (tO h) (m + 1) = zsum (tO h) m + tO h m := rfl
        first
          | (have c : h 44 (m : Int) = -1 := zif_n c17
             have e0 : tO h (m : Int) = 0 := if_pos c
             rw [es, e0, Int.add_zero] at nx
             exact nx)
          | (have c : ¬ h 44 (m : Int) = -1 := zif_m c17
             have e0 : tO h (m : Int) = 1 := if_neg c
             rw [es, e0] at nx
             exact nx)
theorem lp_latest9 {E : zE} {d : Nat} {k : Nat → Nat × Nat} {h : Nat → Int → Int} {r : Nat → Int → Option Nat} {l : Nat → Nat → Int64} {n : Nat} {cn : Nat} (e37 : h 37 6 = (cn : Int)) (c8 : cn ≤ 8) (hz : ∀ t : Int, 0 ≤ t → t < (cn : Int) → zb (h 44 t)) (hl : ∀ t : Int, 0 ≤ t → t < (cn : Int) → zb (tL h t)) : ∀ c : Nat, ∀ m : Nat, cn < m + c → m ≤ cn → zGo E (d + 1) M_X9_latest 0 0 (zV (.int (iI (zmxs (tL h) cn))) (zJ (k, h, r, l, n))) 4 ([some (.ref 37), some (.int (iI (zmxs (tL h) m))), some (.int (iI ((m : Int))))], [], zJ (k, h, r, l, n), 0, 0) := by
  have ok := ok_X9_latest
  intro c
  induction c with
  | zero =>
    intros
    omega
  | succ c ih =>
    intro m g1 g2
    refine s_ldI2 ok rfl ?_
    refine s_ldA0 ok rfl ?_
    refine s_getJ 6 ok rfl rfl rfl rfl ?_
    rw [e37]
    refine s_c_ge ok rfl ⟨by omega, by omega⟩ ⟨by omega, by omega⟩ (fun c9 => ?_) (fun c9 => ?_)
    · refine s_ldI1 ok rfl ?_
      refine s_retI ok rfl ⟨by rw [show m = cn by omega], rfl⟩
    · refine s_ldA0 ok rfl ?_
      refine s_ldI2 ok rfl ?_
      refine s_callV ok rfl rfl rfl rfl rfl rfl (ct_arrives9 (by omega) (by omega) (hz m (by omega) (by omega))) ?_
      refine s_if_eq ok rfl zif10 (fun c17 => ?_) (fun c17 => ?_)
      · refine s_inc2 ok rfl rfl ?_
        refine s_goto ok rfl ?_
        have nx := ih (m + 1) (by omega) (by omega)
        have es : zmxs (tL h) (m + 1) = max (zmxs (tL h) m) (tL h m) := rfl
        have e1 := zmxs_0 (f := tL h) m
        first
          | (have c : h 44 (m : Int) = -1 := zif_n c17
             have e0 : tL h (m : Int) = 0 := if_pos c
             rw [es, e0, show max (zmxs (tL h) m) 0 = zmxs (tL h) m by omega] at nx
             exact nx)
          | (have c : ¬ h 44 (m : Int) = -1 := zif_m c17
             have e0 : tL h (m : Int) = h 46 m := if_neg c
             rw [es, e0, ← zmaxq] at nx
             exact nx)
      · refine s_ldI1 ok rfl ?_
        refine s_ldA0 ok rfl ?_
        refine s_getF ok rfl rfl rfl rfl ?_
        refine s_ldI2 ok rfl ?_
        refine s_iald ok rfl (by exact rfl) (by exact rfl) (by omega) (by omega) ?_
        refine s_max ok rfl rfl rfl (zmxs_zb2 m (fun j j0 j1 => hl j j0 (by omega))) (by have := hl m (by omega) (by omega); unfold tL at this; rw [if_neg (zif_m c17)] at this; exact this) ?_
        refine s_stI1 ok rfl rfl ?_
        refine s_inc2 ok rfl rfl ?_
        refine s_goto ok rfl ?_
        have nx := ih (m + 1) (by omega) (by omega)
        have es : zmxs (tL h) (m + 1) = max (zmxs (tL h) m) (tL h m) := rfl
        have e1 := zmxs_0 (f := tL h) m
        first
          | (have c : h 44 (m : Int) = -1 := zif_n c17
             have e0 : tL h (m : Int) = 0 := if_pos c
             rw [es, e0, show max (zmxs (tL h) m) 0 = zmxs (tL h) m by omega] at nx
             exact nx)
          | (have c : ¬ h 44 (m : Int) = -1 := zif_m c17
             have e0 : tL h (m : Int) = h 46 m := if_neg c
             rw [es, e0, ← zmaxq] at nx
             exact nx)
theorem lp_allArrivals9 {E : zE} {d : Nat} {k : Nat → Nat × Nat} {h : Nat → Int → Int} {r : Nat → Int → Option Nat} {l : Nat → Nat → Int64} {n : Nat} {cn : Nat} (e37 : h 37 6 = (cn : Int)) (c8 : cn ≤ 8) (hz : ∀ t : Int, 0 ≤ t → t < (cn : Int) → zb (h 44 t)) : ∀ c : Nat, ∀ m : Nat, cn < m + c → m ≤ cn → zGo E (d + 2) M_X9_allArrivals 0 0 (zV (.int (iI (zsum (tA h) cn))) (zJ (k, h, r, l, n))) 4 ([some (.ref 37), some (.int (iI (zsum (tA h) m))), some (.int (iI ((m : Int))))], [], zJ (k, h, r, l, n), 0, 0) := by
  have ok := ok_X9_allArrivals
  intro c
  induction c with
  | zero =>
    intros
    omega
  | succ c ih =>
    intro m g1 g2
    refine s_ldI2 ok rfl ?_
    refine s_ldA0 ok rfl ?_
    refine s_getJ 6 ok rfl rfl rfl rfl ?_
    rw [e37]
    refine s_c_ge ok rfl ⟨by omega, by omega⟩ ⟨by omega, by omega⟩ (fun c9 => ?_) (fun c9 => ?_)
    · refine s_ldI1 ok rfl ?_
      refine s_retI ok rfl ⟨by rw [show m = cn by omega], rfl⟩
    · refine s_ldI1 ok rfl ?_
      refine s_ldA0 ok rfl ?_
      refine s_ldI2 ok rfl ?_
      refine s_callV ok rfl rfl rfl rfl rfl rfl (ct_arrivalOf (by omega) (by omega) (hz m (by omega) (by omega))) ?_
      refine s_add ok rfl ?_
      refine s_stI1 ok rfl rfl ?_
      refine s_inc2 ok rfl rfl ?_
      refine s_goto ok rfl ?_
      exact ih (m + 1) (by omega) (by omega)
theorem ct_arriving9 {E : zE} {d : Nat} {k : Nat → Nat × Nat} {h : Nat → Int → Int} {r : Nat → Int → Option Nat} {l : Nat → Nat → Int64} {n : Nat} {cn : Nat} (e37 : h 37 6 = (cn : Int)) (c8 : cn ≤ 8) (hz : ∀ t : Int, 0 ≤ t → t < (cn : Int) → zb (h 44 t)) : zCT E (d + 1) M_X9_arriving [.ref 37] (zJ (k, h, r, l, n)) 0 0 (zV (.int (iI (zsum (tO h) cn))) (zJ (k, h, r, l, n))) := by
  have ok := ok_X9_arriving
  refine zCT_of pn_X9_arriving (Nat.le_of_ble_eq_true rfl) ?_
  show zGo _ _ _ _ _ _ 0 ([some (.ref 37), none, none], [], _, _, _)
  refine s_ci ok rfl ?_
  refine s_stI1 ok rfl rfl ?_
  refine s_ci ok rfl ?_
  refine s_stI2 ok rfl rfl ?_
  exact lp_arriving9 e37 c8 hz (cn + 1) 0 (by omega) (by omega)
theorem ct_latest9 {E : zE} {d : Nat} {k : Nat → Nat × Nat} {h : Nat → Int → Int} {r : Nat → Int → Option Nat} {l : Nat → Nat → Int64} {n : Nat} {cn : Nat} (e37 : h 37 6 = (cn : Int)) (c8 : cn ≤ 8) (hz : ∀ t : Int, 0 ≤ t → t < (cn : Int) → zb (h 44 t)) (hl : ∀ t : Int, 0 ≤ t → t < (cn : Int) → zb (tL h t)) : zCT E (d + 1) M_X9_latest [.ref 37] (zJ (k, h, r, l, n)) 0 0 (zV (.int (iI (zmxs (tL h) cn))) (zJ (k, h, r, l, n))) := by
  have ok := ok_X9_latest
  refine zCT_of pn_X9_latest (Nat.le_of_ble_eq_true rfl) ?_
  show zGo _ _ _ _ _ _ 0 ([some (.ref 37), none, none], [], _, _, _)
  refine s_ci ok rfl ?_
  refine s_stI1 ok rfl rfl ?_
  refine s_ci ok rfl ?_
  refine s_stI2 ok rfl rfl ?_
  exact lp_latest9 e37 c8 hz hl (cn + 1) 0 (by omega) (by omega)
theorem ct_allArrivals9 {E : zE} {d : Nat} {k : Nat → Nat × Nat} {h : Nat → Int → Int} {r : Nat → Int → Option Nat} {l : Nat → Nat → Int64} {n : Nat} {cn : Nat} (e37 : h 37 6 = (cn : Int)) (c8 : cn ≤ 8) (hz : ∀ t : Int, 0 ≤ t → t < (cn : Int) → zb (h 44 t)) : zCT E (d + 2) M_X9_allArrivals [.ref 37] (zJ (k, h, r, l, n)) 0 0 (zV (.int (iI (zsum (tA h) cn))) (zJ (k, h, r, l, n))) := by
  have ok := ok_X9_allArrivals
  refine zCT_of pn_X9_allArrivals (Nat.le_of_ble_eq_true rfl) ?_
  show zGo _ _ _ _ _ _ 0 ([some (.ref 37), none, none], [], _, _, _)
  refine s_ci ok rfl ?_
  refine s_stI1 ok rfl rfl ?_
  refine s_ci ok rfl ?_
  refine s_stI2 ok rfl rfl ?_
  exact lp_allArrivals9 e37 c8 hz (cn + 1) 0 (by omega) (by omega)
