/-! the trip: a train at a stop -/
theorem zmaxq {a b : Int} : (if a < b then b else a) = max a b := by split <;> omega
theorem tStop {p : Int → Int} {w dd x a : Int} {g g2 g3 H : Nat → Int → Int} (hd : dP H) (e6 : H 60 = p) (ew : H 59 17 = w) (ha : H 63 x = a) (a0 : 0 ≤ a) (a4 : a ≤ 4) (h4 : zb (H 64 x)) (x0 : 0 ≤ x) (x1 : x < 3 * p 0) (x2 : x % 3 < dd) (hf : a = 4 → ∀ q : Int, 0 ≤ q → q < p 6 → ¬ pFr p q = 4) (h63 : ∀ y : Int, 0 ≤ y → y < 3 * p 0 → 0 ≤ H 63 y ∧ H 63 y ≤ 5)
    (tt : tT p w dd g H) (tp : tP p w g2 (sF p w x a H)) (tb : tB p w dd g2 (sF p w x a H)) (f49 : g2 49 = g 49) (f50 : g2 50 = g 50) (f51 : g2 51 = g 51)
    (ef : ∀ q : Nat, ¬ q = 49 → ¬ q = 50 → ¬ q = 51 → g3 q = g2 q) (c49 : ∀ i, g3 49 i = if a < 4 ∧ i = 5 * x + a + 1 then H 64 x + ((if 0 < x % 3 ∧ 0 < sF p w x a H 59 19 then p 5 else 0) + p (7 + a) + p (7 + a) * (x % 3) * p 4 / 10) else g2 49 i) (c50 : ∀ i, g3 50 i = if i = 5 * x + a then g2 52 x else g2 50 i) (c51 : ∀ y, g3 51 y = if y = x then max (g2 51 x) (g2 53 x) else g2 51 y) : tT p w dd g3 (sStop x H) := by
  have p4 : p 0 ≤ 4 := by rw [← e6]; exact hd.1.2.1
  obtain ⟨s1, s66, s68, s64, s63, s67⟩ := sStop_F (p := p) (w := w) (a := a) hd e6 ew ha h4 x0 (by omega) hf a4
  have r65 := s1 65 (by omega) (by omega) (by omega) (by omega) (by omega)
  have r69 := s1 69 (by omega) (by omega) (by omega) (by omega) (by omega)
  have r70 := s1 70 (by omega) (by omega) (by omega) (by omega) (by omega)
  have r71 := s1 71 (by omega) (by omega) (by omega) (by omega) (by omega)
  have r72 := s1 72 (by omega) (by omega) (by omega) (by omega) (by omega)
  have r74 := s1 74 (by omega) (by omega) (by omega) (by omega) (by omega)
  have q44 := ef 44 (by omega) (by omega) (by omega)
  have q45 := ef 45 (by omega) (by omega) (by omega)
  have q46 := ef 46 (by omega) (by omega) (by omega)
  have q47 := ef 47 (by omega) (by omega) (by omega)
  have q48 := ef 48 (by omega) (by omega) (by omega)
  have q52 := ef 52 (by omega) (by omega) (by omega)
  have q53 := ef 53 (by omega) (by omega) (by omega)
  refine ⟨?_, ?_, fun y y0 y1 y2 => ?_⟩
  · unfold tP at tp ⊢
    rw [r69, r70, r71, r72, r74, q44, q45, q46, q47, q48]
    exact tp
  · unfold tB oB at tb ⊢
    rw [r65, r69, r71, q52, q53]
    exact tb
  · obtain ⟨t1, t2, t3⟩ := tt.2.2 y y0 y1 y2
    have hy := h63 y y0 y1
    rw [c51, s66, s63, s64, f51]
    by_cases e : y = x
    · subst e
      rw [if_pos rfl, if_pos rfl, if_pos rfl, t1, (tb y y0 y1 y2).1]
      refine ⟨rfl, fun z => ?_, fun b b0 b1 => ?_⟩
      · rw [if_pos (show a < 4 ∧ y = y from ⟨by omega, rfl⟩), c49, if_pos (show a < 4 ∧ 5 * y + (a + 1) = 5 * y + a + 1 from ⟨by omega, by omega⟩)]
      · rw [c49, if_neg (show ¬ (a < 4 ∧ 5 * y + b = 5 * y + a + 1) by omega), c50, s68, s67, f49, f50]
        by_cases eb : b = a
        · subst eb
          rw [if_pos rfl, if_pos rfl, if_pos rfl]
          refine ⟨?_, fun w4 => ?_⟩
          · rw [← t2 (by omega), ha]
          · subst w4
            have hb := (tb y y0 y1 y2).2
            have p68 : p 6 ≤ 8 := by rw [← e6]; exact hd.1.2.2.2.2.2.2.2.2.2.2.2.2.2.1
            have p60 : 0 ≤ p 6 := by rw [← e6]; exact hd.1.2.2.2.2.2.2.2.2.2.2.2.2.1
            have zm := zmk_bt (zabd (sF p (-4) y b H) y) (p 6).toNat (by omega)
            refine mBt_un hb (mBt_cg zm fun j j0 j1 => ?_)
            unfold oB
            rw [cnP_4, sg_4]
            show decide (j < p 6 ∧ sF p (-4) y b H 69 j = y ∧ sF p (-4) y b H 71 j < 0) = (decide (j < ((p 6).toNat : Int)) && decide (sF p (-4) y b H 69 j = y ∧ sF p (-4) y b H 71 j < 0))
            rw [show ((p 6).toNat : Int) = p 6 by omega, Bool.decide_and (j < p 6)]
        · rw [if_neg (by omega), if_neg (by omega), if_neg (by omega)]
          exact t3 b b0 (by omega)
    · rw [if_neg e, if_neg e, if_neg (show ¬ (a < 4 ∧ y = x) from fun z => e z.2), if_neg e]
      refine ⟨t1, fun z => ?_, fun b b0 b1 => ?_⟩
      · rw [c49, if_neg (show ¬ (a < 4 ∧ 5 * y + H 63 y = 5 * x + a + 1) by omega), f49]
        exact t2 z
      · rw [c49, if_neg (show ¬ (a < 4 ∧ 5 * y + b = 5 * x + a + 1) by omega), c50, if_neg (by omega), s68, if_neg (by omega), s67, if_neg (by omega), f49, f50]
        exact t3 b b0 b1
theorem cR4_trip {k : Nat → Nat × Nat} {g h : Nat → Int → Int} {r : Nat → Int → Option Nat} {n : Nat} {p : Int → Int} {w : Int} (c : cR 4 5 6 7 8 9 10 11 12 13 k h r n p w) (f : ∀ q : Nat, q < 37 ∨ 54 < q → g q = h q) : cR 4 5 6 7 8 9 10 11 12 13 k g r n p w := by
  obtain ⟨r0, r1, r2, r3, r4, r5⟩ := c
  refine ⟨?_, fun t t0 t1 => ?_, r2, ?_, ?_, ?_⟩
  · rw [f 4 (by omega)]; exact r0
  · obtain ⟨v, v1, v2, v3⟩ := r1 t t0 t1
    refine ⟨v, v1, wk_fr v2 (fW_fix fun q hq => f q (by omega)), ?_⟩
    rw [f 6 (by omega), f 7 (by omega), f 8 (by omega)]
    exact v3
  · rw [f 9 (by omega), f 10 (by omega), f 11 (by omega)]; exact r3
  · rw [f 11 (by omega)]; exact r4
  · rw [f 12 (by omega), f 13 (by omega)]; exact r5
theorem lp_stop28_4 {E : zE} {d : Nat} {k : Nat → Nat × Nat} {h : Nat → Int → Int} {r : Nat → Int → Option Nat} {l : Nat → Nat → Int64} {n : Nat} {Q : zQ} {p : Int → Int} {x a b5 m6 : Int} {u v : Option Value} (x0 : 0 ≤ x) (x1 : x < 12) (a0 : 0 ≤ a) (a4 : a ≤ 4) (hb : b5 = 0 ∨ b5 = 1) (z51 : zb (h 51 x)) (z53 : zb (h 53 x)) (e49 : h 49 (5 * x + a) = m6) (e8 : a < 4 → h 12 a = p (7 + a)) (b8 : a < 4 → 1 ≤ p (7 + a) ∧ p (7 + a) ≤ 90) (e92 : h 13 2 = p 4) (e93 : h 13 3 = p 5) (b9 : 0 ≤ p 4 ∧ p 4 ≤ 9) (K : ∀ g, (∀ q : Nat, ¬ q = 49 → ¬ q = 50 → ¬ q = 51 → g q = h q) ∧ (∀ i, g 49 i = if a < 4 ∧ i = 5 * x + a + 1 then m6 + ((if 0 < x % 3 ∧ ¬ b5 = 0 then p 5 else 0) + p (7 + a) + p (7 + a) * (x % 3) * p 4 / 10) else h 49 i) ∧ (∀ i, g 50 i = if i = 5 * x + a then h 52 x else h 50 i) ∧ (∀ y, g 51 y = if y = x then max (h 51 x) (h 53 x) else h 51 y) → Q none (zJ (k, g, r, l, n))) : zGo E (d + 1) M_X9_atStop 0 0 Q 28 ([some (.ref 37), some (.ref 4), some (.int (iI (x))), some (.int (iI (a))), some (.int (iI (5 * x + a))), some (.int (iI (b5))), u, v], [], zJ (k, h, r, l, n), 0, 0) := by
  have ok := ok_X9_atStop
  refine s_ldA0 ok rfl ?_
  refine s_getF ok rfl rfl rfl rfl ?_
  refine s_ldI4 ok rfl ?_
  refine s_ldA0 ok rfl ?_
  refine s_getF ok rfl rfl rfl rfl ?_
  refine s_ldI2 ok rfl ?_
  refine s_iald ok rfl (by exact rfl) (by exact rfl) (by omega) (by omega) ?_
  refine s_iast ok rfl (by exact rfl) (by exact rfl) (by omega) (by omega) (fun q => by cases q) ?_
  refine s_ldA0 ok rfl ?_
  refine s_getF ok rfl rfl rfl rfl ?_
  refine s_ldI2 ok rfl ?_
  refine s_ldA0 ok rfl ?_
  refine s_getF ok rfl rfl rfl rfl ?_
  refine s_ldI2 ok rfl ?_
  refine s_iald ok rfl (by exact rfl) (by exact rfl) (by omega) (by omega) ?_
  refine s_ldA0 ok rfl ?_
  refine s_getF ok rfl rfl rfl rfl ?_
  refine s_ldI2 ok rfl ?_
  refine s_iald ok rfl (by exact rfl) (by exact rfl) (by omega) (by omega) ?_
  refine s_max ok rfl rfl rfl z51 z53 ?_
  refine s_iast ok rfl (by exact rfl) (by exact rfl) (by omega) (by omega) (fun q => by cases q) ?_
  refine s_ldI3 ok rfl ?_
  refine s_ci ok rfl ?_
  refine s_c_ge ok rfl ⟨by omega, by omega⟩ ⟨by omega, by omega⟩ (fun c64 => ?_) (fun c64 => ?_)
  · first
      | (refine s_retV ok rfl (K _ ⟨fun q z1 z2 z3 => (zv_other z1).trans ((zv_other z3).trans (zv_other z2)), fun i => ?_, fun i => rfl, fun y => (show (if y = x then (if h 51 x < h 53 x then h 53 x else h 51 x) else h 51 y) = _ by rw [zmaxq])⟩)
         show (if i = 5 * x + a + 1 then h 49 (5 * x + a) + h 13 3 + (h 12 a + h 12 a * (x % 3) * h 13 2 / 10) else h 49 i) = _
         rw [e49, e8, e92, e93, if_pos (show 0 < x % 3 ∧ ¬ b5 = 0 by omega)]
         by_cases e : i = 5 * x + a + 1
         · rw [if_pos e, if_pos (show a < 4 ∧ i = 5 * x + a + 1 from ⟨by omega, e⟩)]
           simp only [Int.add_assoc]
         · rw [if_neg e, if_neg (show ¬ (a < 4 ∧ i = 5 * x + a + 1) from fun z => e z.2)])
      | (refine s_retV ok rfl (K _ ⟨fun q z1 z2 z3 => (zv_other z1).trans ((zv_other z3).trans (zv_other z2)), fun i => ?_, fun i => rfl, fun y => (show (if y = x then (if h 51 x < h 53 x then h 53 x else h 51 x) else h 51 y) = _ by rw [zmaxq])⟩)
         show (if i = 5 * x + a + 1 then h 49 (5 * x + a) + 0 + (h 12 a + h 12 a * (x % 3) * h 13 2 / 10) else h 49 i) = _
         rw [e49, e8, e92, if_neg (show ¬ (0 < x % 3 ∧ ¬ b5 = 0) by omega)]
         by_cases e : i = 5 * x + a + 1
         · rw [if_pos e, if_pos (show a < 4 ∧ i = 5 * x + a + 1 from ⟨by omega, e⟩)]
           simp only [Int.add_assoc]
         · rw [if_neg e, if_neg (show ¬ (a < 4 ∧ i = 5 * x + a + 1) from fun z => e z.2)])
      | (refine s_retV ok rfl (K _ ⟨fun q z1 z2 z3 => (zv_other z3).trans (zv_other z2), fun i => ?_, fun i => rfl, fun y => (show (if y = x then (if h 51 x < h 53 x then h 53 x else h 51 x) else h 51 y) = _ by rw [zmaxq])⟩)
         rw [if_neg (show ¬ (a < 4 ∧ i = 5 * x + a + 1) by omega)]
         rfl)
  · have e8 := e8 (by omega)
    have b8 := b8 (by omega)
    refine s_ldI2 ok rfl ?_
    refine s_ci ok rfl ?_
    refine s_rem ok rfl (by first | exact hb _ _ | exact ⟨by omega, by omega⟩) (by first | exact hb _ _ | exact ⟨by omega, by omega⟩) (by omega) (by omega) ?_
    refine s_stI6 ok rfl rfl ?_
    refine s_ldI5 ok rfl ?_
    refine s_if_eq ok rfl ⟨by omega, by omega⟩ (fun c74 => ?_) (fun c74 => ?_)
    · refine s_ci ok rfl ?_
      refine s_stI7 ok rfl rfl ?_
      refine s_ldA0 ok rfl ?_
      refine s_getF ok rfl rfl rfl rfl ?_
      refine s_ldI4 ok rfl ?_
      refine s_ci ok rfl ?_
      refine s_add ok rfl ?_
      refine s_ldA0 ok rfl ?_
      refine s_getF ok rfl rfl rfl rfl ?_
      refine s_ldI4 ok rfl ?_
      refine s_iald ok rfl (by exact rfl) (by exact rfl) (by omega) (by omega) ?_
      refine s_ldI7 ok rfl ?_
      refine s_add ok rfl ?_
      refine s_ldA1 ok rfl ?_
      refine s_ldI3 ok rfl ?_
      refine s_ldI6 ok rfl ?_
      refine s_callV ok rfl rfl rfl rfl rfl rfl (ct_ride4 (by omega) (by omega) (by omega) (by omega) (show 0 ≤ h 12 a by omega) (show h 12 a ≤ 90 by omega) (show 0 ≤ h 13 2 by omega) (show h 13 2 ≤ 9 by omega)) ?_
      refine s_add ok rfl ?_
      refine s_iast ok rfl (by exact rfl) (by exact rfl) (by omega) (by omega) (fun q => by cases q) ?_
      first
        | (refine s_retV ok rfl (K _ ⟨fun q z1 z2 z3 => (zv_other z1).trans ((zv_other z3).trans (zv_other z2)), fun i => ?_, fun i => rfl, fun y => (show (if y = x then (if h 51 x < h 53 x then h 53 x else h 51 x) else h 51 y) = _ by rw [zmaxq])⟩)
           show (if i = 5 * x + a + 1 then h 49 (5 * x + a) + h 13 3 + (h 12 a + h 12 a * (x % 3) * h 13 2 / 10) else h 49 i) = _
           rw [e49, e8, e92, e93, if_pos (show 0 < x % 3 ∧ ¬ b5 = 0 by omega)]
           by_cases e : i = 5 * x + a + 1
           · rw [if_pos e, if_pos (show a < 4 ∧ i = 5 * x + a + 1 from ⟨by omega, e⟩)]
             simp only [Int.add_assoc]
           · rw [if_neg e, if_neg (show ¬ (a < 4 ∧ i = 5 * x + a + 1) from fun z => e z.2)])
        | (refine s_retV ok rfl (K _ ⟨fun q z1 z2 z3 => (zv_other z1).trans ((zv_other z3).trans (zv_other z2)), fun i => ?_, fun i => rfl, fun y => (show (if y = x then (if h 51 x < h 53 x then h 53 x else h 51 x) else h 51 y) = _ by rw [zmaxq])⟩)
           show (if i = 5 * x + a + 1 then h 49 (5 * x + a) + 0 + (h 12 a + h 12 a * (x % 3) * h 13 2 / 10) else h 49 i) = _
           rw [e49, e8, e92, if_neg (show ¬ (0 < x % 3 ∧ ¬ b5 = 0) by omega)]
           by_cases e : i = 5 * x + a + 1
           · rw [if_pos e, if_pos (show a < 4 ∧ i = 5 * x + a + 1 from ⟨by omega, e⟩)]
             simp only [Int.add_assoc]
           · rw [if_neg e, if_neg (show ¬ (a < 4 ∧ i = 5 * x + a + 1) from fun z => e z.2)])
        | (refine s_retV ok rfl (K _ ⟨fun q z1 z2 z3 => (zv_other z3).trans (zv_other z2), fun i => ?_, fun i => rfl, fun y => (show (if y = x then (if h 51 x < h 53 x then h 53 x else h 51 x) else h 51 y) = _ by rw [zmaxq])⟩)
           rw [if_neg (show ¬ (a < 4 ∧ i = 5 * x + a + 1) by omega)]
           rfl)
    · refine s_ldI6 ok rfl ?_
      refine s_if_le ok rfl ⟨by omega, by omega⟩ (fun c79 => ?_) (fun c79 => ?_)
      · refine s_ci ok rfl ?_
        refine s_stI7 ok rfl rfl ?_
        refine s_ldA0 ok rfl ?_
        refine s_getF ok rfl rfl rfl rfl ?_
        refine s_ldI4 ok rfl ?_
        refine s_ci ok rfl ?_
        refine s_add ok rfl ?_
        refine s_ldA0 ok rfl ?_
        refine s_getF ok rfl rfl rfl rfl ?_
        refine s_ldI4 ok rfl ?_
        refine s_iald ok rfl (by exact rfl) (by exact rfl) (by omega) (by omega) ?_
        refine s_ldI7 ok rfl ?_
        refine s_add ok rfl ?_
        refine s_ldA1 ok rfl ?_
        refine s_ldI3 ok rfl ?_
        refine s_ldI6 ok rfl ?_
        refine s_callV ok rfl rfl rfl rfl rfl rfl (ct_ride4 (by omega) (by omega) (by omega) (by omega) (show 0 ≤ h 12 a by omega) (show h 12 a ≤ 90 by omega) (show 0 ≤ h 13 2 by omega) (show h 13 2 ≤ 9 by omega)) ?_
        refine s_add ok rfl ?_
        refine s_iast ok rfl (by exact rfl) (by exact rfl) (by omega) (by omega) (fun q => by cases q) ?_
        first
          | (refine s_retV ok rfl (K _ ⟨fun q z1 z2 z3 => (zv_other z1).trans ((zv_other z3).trans (zv_other z2)), fun i => ?_, fun i => rfl, fun y => (show (if y = x then (if h 51 x < h 53 x then h 53 x else h 51 x) else h 51 y) = _ by rw [zmaxq])⟩)
             show (if i = 5 * x + a + 1 then h 49 (5 * x + a) + h 13 3 + (h 12 a + h 12 a * (x % 3) * h 13 2 / 10) else h 49 i) = _
             rw [e49, e8, e92, e93, if_pos (show 0 < x % 3 ∧ ¬ b5 = 0 by omega)]
             by_cases e : i = 5 * x + a + 1
             · rw [if_pos e, if_pos (show a < 4 ∧ i = 5 * x + a + 1 from ⟨by omega, e⟩)]
               simp only [Int.add_assoc]
             · rw [if_neg e, if_neg (show ¬ (a < 4 ∧ i = 5 * x + a + 1) from fun z => e z.2)])
          | (refine s_retV ok rfl (K _ ⟨fun q z1 z2 z3 => (zv_other z1).trans ((zv_other z3).trans (zv_other z2)), fun i => ?_, fun i => rfl, fun y => (show (if y = x then (if h 51 x < h 53 x then h 53 x else h 51 x) else h 51 y) = _ by rw [zmaxq])⟩)
             show (if i = 5 * x + a + 1 then h 49 (5 * x + a) + 0 + (h 12 a + h 12 a * (x % 3) * h 13 2 / 10) else h 49 i) = _
             rw [e49, e8, e92, if_neg (show ¬ (0 < x % 3 ∧ ¬ b5 = 0) by omega)]
             by_cases e : i = 5 * x + a + 1
             · rw [if_pos e, if_pos (show a < 4 ∧ i = 5 * x + a + 1 from ⟨by omega, e⟩)]
               simp only [Int.add_assoc]
             · rw [if_neg e, if_neg (show ¬ (a < 4 ∧ i = 5 * x + a + 1) from fun z => e z.2)])
          | (refine s_retV ok rfl (K _ ⟨fun q z1 z2 z3 => (zv_other z3).trans (zv_other z2), fun i => ?_, fun i => rfl, fun y => (show (if y = x then (if h 51 x < h 53 x then h 53 x else h 51 x) else h 51 y) = _ by rw [zmaxq])⟩)
             rw [if_neg (show ¬ (a < 4 ∧ i = 5 * x + a + 1) by omega)]
             rfl)
      · refine s_ldA1 ok rfl ?_
        refine s_getF ok rfl rfl rfl rfl ?_
        refine s_ci ok rfl ?_
        refine s_iald ok rfl (by exact rfl) (by exact rfl) (by omega) (by omega) ?_
        refine s_goto ok rfl ?_
        refine s_stI7 ok rfl rfl ?_
        refine s_ldA0 ok rfl ?_
        refine s_getF ok rfl rfl rfl rfl ?_
        refine s_ldI4 ok rfl ?_
        refine s_ci ok rfl ?_
        refine s_add ok rfl ?_
        refine s_ldA0 ok rfl ?_
        refine s_getF ok rfl rfl rfl rfl ?_
        refine s_ldI4 ok rfl ?_
        refine s_iald ok rfl (by exact rfl) (by exact rfl) (by omega) (by omega) ?_
        refine s_ldI7 ok rfl ?_
        refine s_add ok rfl ?_
        refine s_ldA1 ok rfl ?_
        refine s_ldI3 ok rfl ?_
        refine s_ldI6 ok rfl ?_
        refine s_callV ok rfl rfl rfl rfl rfl rfl (ct_ride4 (by omega) (by omega) (by omega) (by omega) (show 0 ≤ h 12 a by omega) (show h 12 a ≤ 90 by omega) (show 0 ≤ h 13 2 by omega) (show h 13 2 ≤ 9 by omega)) ?_
        refine s_add ok rfl ?_
        refine s_iast ok rfl (by exact rfl) (by exact rfl) (by omega) (by omega) (fun q => by cases q) ?_
        first
          | (refine s_retV ok rfl (K _ ⟨fun q z1 z2 z3 => (zv_other z1).trans ((zv_other z3).trans (zv_other z2)), fun i => ?_, fun i => rfl, fun y => (show (if y = x then (if h 51 x < h 53 x then h 53 x else h 51 x) else h 51 y) = _ by rw [zmaxq])⟩)
             show (if i = 5 * x + a + 1 then h 49 (5 * x + a) + h 13 3 + (h 12 a + h 12 a * (x % 3) * h 13 2 / 10) else h 49 i) = _
             rw [e49, e8, e92, e93, if_pos (show 0 < x % 3 ∧ ¬ b5 = 0 by omega)]
             by_cases e : i = 5 * x + a + 1
             · rw [if_pos e, if_pos (show a < 4 ∧ i = 5 * x + a + 1 from ⟨by omega, e⟩)]
               simp only [Int.add_assoc]
             · rw [if_neg e, if_neg (show ¬ (a < 4 ∧ i = 5 * x + a + 1) from fun z => e z.2)])
          | (refine s_retV ok rfl (K _ ⟨fun q z1 z2 z3 => (zv_other z1).trans ((zv_other z3).trans (zv_other z2)), fun i => ?_, fun i => rfl, fun y => (show (if y = x then (if h 51 x < h 53 x then h 53 x else h 51 x) else h 51 y) = _ by rw [zmaxq])⟩)
             show (if i = 5 * x + a + 1 then h 49 (5 * x + a) + 0 + (h 12 a + h 12 a * (x % 3) * h 13 2 / 10) else h 49 i) = _
             rw [e49, e8, e92, if_neg (show ¬ (0 < x % 3 ∧ ¬ b5 = 0) by omega)]
             by_cases e : i = 5 * x + a + 1
             · rw [if_pos e, if_pos (show a < 4 ∧ i = 5 * x + a + 1 from ⟨by omega, e⟩)]
               simp only [Int.add_assoc]
             · rw [if_neg e, if_neg (show ¬ (a < 4 ∧ i = 5 * x + a + 1) from fun z => e z.2)])
          | (refine s_retV ok rfl (K _ ⟨fun q z1 z2 z3 => (zv_other z3).trans (zv_other z2), fun i => ?_, fun i => rfl, fun y => (show (if y = x then (if h 51 x < h 53 x then h 53 x else h 51 x) else h 51 y) = _ by rw [zmaxq])⟩)
             rw [if_neg (show ¬ (a < 4 ∧ i = 5 * x + a + 1) by omega)]
             rfl)
theorem cR15_trip {k : Nat → Nat × Nat} {g h : Nat → Int → Int} {r : Nat → Int → Option Nat} {n : Nat} {p : Int → Int} {w : Int} (c : cR 15 16 17 18 19 20 21 22 23 24 k h r n p w) (f : ∀ q : Nat, q < 37 ∨ 54 < q → g q = h q) : cR 15 16 17 18 19 20 21 22 23 24 k g r n p w := by
  obtain ⟨r0, r1, r2, r3, r4, r5⟩ := c
  refine ⟨?_, fun t t0 t1 => ?_, r2, ?_, ?_, ?_⟩
  · rw [f 15 (by omega)]; exact r0
  · obtain ⟨v, v1, v2, v3⟩ := r1 t t0 t1
    refine ⟨v, v1, wk_fr v2 (fW_fix fun q hq => f q (by omega)), ?_⟩
    rw [f 17 (by omega), f 18 (by omega), f 19 (by omega)]
    exact v3
  · rw [f 20 (by omega), f 21 (by omega), f 22 (by omega)]; exact r3
  · rw [f 22 (by omega)]; exact r4
  · rw [f 23 (by omega), f 24 (by omega)]; exact r5
theorem lp_stop28_15 {E : zE} {d : Nat} {k : Nat → Nat × Nat} {h : Nat → Int → Int} {r : Nat → Int → Option Nat} {l : Nat → Nat → Int64} {n : Nat} {Q : zQ} {p : Int → Int} {x a b5 m6 : Int} {u v : Option Value} (x0 : 0 ≤ x) (x1 : x < 12) (a0 : 0 ≤ a) (a4 : a ≤ 4) (hb : b5 = 0 ∨ b5 = 1) (z51 : zb (h 51 x)) (z53 : zb (h 53 x)) (e49 : h 49 (5 * x + a) = m6) (e8 : a < 4 → h 23 a = p (7 + a)) (b8 : a < 4 → 1 ≤ p (7 + a) ∧ p (7 + a) ≤ 90) (e92 : h 24 2 = p 4) (e93 : h 24 3 = p 5) (b9 : 0 ≤ p 4 ∧ p 4 ≤ 9) (K : ∀ g, (∀ q : Nat, ¬ q = 49 → ¬ q = 50 → ¬ q = 51 → g q = h q) ∧ (∀ i, g 49 i = if a < 4 ∧ i = 5 * x + a + 1 then m6 + ((if 0 < x % 3 ∧ ¬ b5 = 0 then p 5 else 0) + p (7 + a) + p (7 + a) * (x % 3) * p 4 / 10) else h 49 i) ∧ (∀ i, g 50 i = if i = 5 * x + a then h 52 x else h 50 i) ∧ (∀ y, g 51 y = if y = x then max (h 51 x) (h 53 x) else h 51 y) → Q none (zJ (k, g, r, l, n))) : zGo E (d + 1) M_X9_atStop 0 0 Q 28 ([some (.ref 37), some (.ref 15), some (.int (iI (x))), some (.int (iI (a))), some (.int (iI (5 * x + a))), some (.int (iI (b5))), u, v], [], zJ (k, h, r, l, n), 0, 0) := by
  have ok := ok_X9_atStop
  refine s_ldA0 ok rfl ?_
  refine s_getF ok rfl rfl rfl rfl ?_
  refine s_ldI4 ok rfl ?_
  refine s_ldA0 ok rfl ?_
  refine s_getF ok rfl rfl rfl rfl ?_
  refine s_ldI2 ok rfl ?_
  refine s_iald ok rfl (by exact rfl) (by exact rfl) (by omega) (by omega) ?_
  refine s_iast ok rfl (by exact rfl) (by exact rfl) (by omega) (by omega) (fun q => by cases q) ?_
  refine s_ldA0 ok rfl ?_
  refine s_getF ok rfl rfl rfl rfl ?_
  refine s_ldI2 ok rfl ?_
  refine s_ldA0 ok rfl ?_
  refine s_getF ok rfl rfl rfl rfl ?_
  refine s_ldI2 ok rfl ?_
  refine s_iald ok rfl (by exact rfl) (by exact rfl) (by omega) (by omega) ?_
  refine s_ldA0 ok rfl ?_
  refine s_getF ok rfl rfl rfl rfl ?_
  refine s_ldI2 ok rfl ?_
  refine s_iald ok rfl (by exact rfl) (by exact rfl) (by omega) (by omega) ?_
  refine s_max ok rfl rfl rfl z51 z53 ?_
  refine s_iast ok rfl (by exact rfl) (by exact rfl) (by omega) (by omega) (fun q => by cases q) ?_
  refine s_ldI3 ok rfl ?_
  refine s_ci ok rfl ?_
  refine s_c_ge ok rfl ⟨by omega, by omega⟩ ⟨by omega, by omega⟩ (fun c64 => ?_) (fun c64 => ?_)
  · first
      | (refine s_retV ok rfl (K _ ⟨fun q z1 z2 z3 => (zv_other z1).trans ((zv_other z3).trans (zv_other z2)), fun i => ?_, fun i => rfl, fun y => (show (if y = x then (if h 51 x < h 53 x then h 53 x else h 51 x) else h 51 y) = _ by rw [zmaxq])⟩)
         show (if i = 5 * x + a + 1 then h 49 (5 * x + a) + h 24 3 + (h 23 a + h 23 a * (x % 3) * h 24 2 / 10) else h 49 i) = _
         rw [e49, e8, e92, e93, if_pos (show 0 < x % 3 ∧ ¬ b5 = 0 by omega)]
         by_cases e : i = 5 * x + a + 1
         · rw [if_pos e, if_pos (show a < 4 ∧ i = 5 * x + a + 1 from ⟨by omega, e⟩)]
           simp only [Int.add_assoc]
         · rw [if_neg e, if_neg (show ¬ (a < 4 ∧ i = 5 * x + a + 1) from fun z => e z.2)])
      | (refine s_retV ok rfl (K _ ⟨fun q z1 z2 z3 => (zv_other z1).trans ((zv_other z3).trans (zv_other z2)), fun i => ?_, fun i => rfl, fun y => (show (if y = x then (if h 51 x < h 53 x then h 53 x else h 51 x) else h 51 y) = _ by rw [zmaxq])⟩)
         show (if i = 5 * x + a + 1 then h 49 (5 * x + a) + 0 + (h 23 a + h 23 a * (x % 3) * h 24 2 / 10) else h 49 i) = _
         rw [e49, e8, e92, if_neg (show ¬ (0 < x % 3 ∧ ¬ b5 = 0) by omega)]
         by_cases e : i = 5 * x + a + 1
         · rw [if_pos e, if_pos (show a < 4 ∧ i = 5 * x + a + 1 from ⟨by omega, e⟩)]
           simp only [Int.add_assoc]
         · rw [if_neg e, if_neg (show ¬ (a < 4 ∧ i = 5 * x + a + 1) from fun z => e z.2)])
      | (refine s_retV ok rfl (K _ ⟨fun q z1 z2 z3 => (zv_other z3).trans (zv_other z2), fun i => ?_, fun i => rfl, fun y => (show (if y = x then (if h 51 x < h 53 x then h 53 x else h 51 x) else h 51 y) = _ by rw [zmaxq])⟩)
         rw [if_neg (show ¬ (a < 4 ∧ i = 5 * x + a + 1) by omega)]
         rfl)
  · have e8 := e8 (by omega)
    have b8 := b8 (by omega)
    refine s_ldI2 ok rfl ?_
    refine s_ci ok rfl ?_
    refine s_rem ok rfl (by first | exact hb _ _ | exact ⟨by omega, by omega⟩) (by first | exact hb _ _ | exact ⟨by omega, by omega⟩) (by omega) (by omega) ?_
    refine s_stI6 ok rfl rfl ?_
    refine s_ldI5 ok rfl ?_
    refine s_if_eq ok rfl ⟨by omega, by omega⟩ (fun c74 => ?_) (fun c74 => ?_)
    · refine s_ci ok rfl ?_
      refine s_stI7 ok rfl rfl ?_
      refine s_ldA0 ok rfl ?_
      refine s_getF ok rfl rfl rfl rfl ?_
      refine s_ldI4 ok rfl ?_
      refine s_ci ok rfl ?_
      refine s_add ok rfl ?_
      refine s_ldA0 ok rfl ?_
      refine s_getF ok rfl rfl rfl rfl ?_
      refine s_ldI4 ok rfl ?_
      refine s_iald ok rfl (by exact rfl) (by exact rfl) (by omega) (by omega) ?_
      refine s_ldI7 ok rfl ?_
      refine s_add ok rfl ?_
      refine s_ldA1 ok rfl ?_
      refine s_ldI3 ok rfl ?_
      refine s_ldI6 ok rfl ?_
      refine s_callV ok rfl rfl rfl rfl rfl rfl (ct_ride15 (by omega) (by omega) (by omega) (by omega) (show 0 ≤ h 23 a by omega) (show h 23 a ≤ 90 by omega) (show 0 ≤ h 24 2 by omega) (show h 24 2 ≤ 9 by omega)) ?_
      refine s_add ok rfl ?_
      refine s_iast ok rfl (by exact rfl) (by exact rfl) (by omega) (by omega) (fun q => by cases q) ?_
      first
        | (refine s_retV ok rfl (K _ ⟨fun q z1 z2 z3 => (zv_other z1).trans ((zv_other z3).trans (zv_other z2)), fun i => ?_, fun i => rfl, fun y => (show (if y = x then (if h 51 x < h 53 x then h 53 x else h 51 x) else h 51 y) = _ by rw [zmaxq])⟩)
           show (if i = 5 * x + a + 1 then h 49 (5 * x + a) + h 24 3 + (h 23 a + h 23 a * (x % 3) * h 24 2 / 10) else h 49 i) = _
           rw [e49, e8, e92, e93, if_pos (show 0 < x % 3 ∧ ¬ b5 = 0 by omega)]
           by_cases e : i = 5 * x + a + 1
           · rw [if_pos e, if_pos (show a < 4 ∧ i = 5 * x + a + 1 from ⟨by omega, e⟩)]
             simp only [Int.add_assoc]
           · rw [if_neg e, if_neg (show ¬ (a < 4 ∧ i = 5 * x + a + 1) from fun z => e z.2)])
        | (refine s_retV ok rfl (K _ ⟨fun q z1 z2 z3 => (zv_other z1).trans ((zv_other z3).trans (zv_other z2)), fun i => ?_, fun i => rfl, fun y => (show (if y = x then (if h 51 x < h 53 x then h 53 x else h 51 x) else h 51 y) = _ by rw [zmaxq])⟩)
           show (if i = 5 * x + a + 1 then h 49 (5 * x + a) + 0 + (h 23 a + h 23 a * (x % 3) * h 24 2 / 10) else h 49 i) = _
           rw [e49, e8, e92, if_neg (show ¬ (0 < x % 3 ∧ ¬ b5 = 0) by omega)]
           by_cases e : i = 5 * x + a + 1
           · rw [if_pos e, if_pos (show a < 4 ∧ i = 5 * x + a + 1 from ⟨by omega, e⟩)]
             simp only [Int.add_assoc]
           · rw [if_neg e, if_neg (show ¬ (a < 4 ∧ i = 5 * x + a + 1) from fun z => e z.2)])
        | (refine s_retV ok rfl (K _ ⟨fun q z1 z2 z3 => (zv_other z3).trans (zv_other z2), fun i => ?_, fun i => rfl, fun y => (show (if y = x then (if h 51 x < h 53 x then h 53 x else h 51 x) else h 51 y) = _ by rw [zmaxq])⟩)
           rw [if_neg (show ¬ (a < 4 ∧ i = 5 * x + a + 1) by omega)]
           rfl)
    · refine s_ldI6 ok rfl ?_
      refine s_if_le ok rfl ⟨by omega, by omega⟩ (fun c79 => ?_) (fun c79 => ?_)
      · refine s_ci ok rfl ?_
        refine s_stI7 ok rfl rfl ?_
        refine s_ldA0 ok rfl ?_
        refine s_getF ok rfl rfl rfl rfl ?_
        refine s_ldI4 ok rfl ?_
        refine s_ci ok rfl ?_
        refine s_add ok rfl ?_
        refine s_ldA0 ok rfl ?_
        refine s_getF ok rfl rfl rfl rfl ?_
        refine s_ldI4 ok rfl ?_
        refine s_iald ok rfl (by exact rfl) (by exact rfl) (by omega) (by omega) ?_
        refine s_ldI7 ok rfl ?_
        refine s_add ok rfl ?_
        refine s_ldA1 ok rfl ?_
        refine s_ldI3 ok rfl ?_
        refine s_ldI6 ok rfl ?_
        refine s_callV ok rfl rfl rfl rfl rfl rfl (ct_ride15 (by omega) (by omega) (by omega) (by omega) (show 0 ≤ h 23 a by omega) (show h 23 a ≤ 90 by omega) (show 0 ≤ h 24 2 by omega) (show h 24 2 ≤ 9 by omega)) ?_
        refine s_add ok rfl ?_
        refine s_iast ok rfl (by exact rfl) (by exact rfl) (by omega) (by omega) (fun q => by cases q) ?_
        first
          | (refine s_retV ok rfl (K _ ⟨fun q z1 z2 z3 => (zv_other z1).trans ((zv_other z3).trans (zv_other z2)), fun i => ?_, fun i => rfl, fun y => (show (if y = x then (if h 51 x < h 53 x then h 53 x else h 51 x) else h 51 y) = _ by rw [zmaxq])⟩)
             show (if i = 5 * x + a + 1 then h 49 (5 * x + a) + h 24 3 + (h 23 a + h 23 a * (x % 3) * h 24 2 / 10) else h 49 i) = _
             rw [e49, e8, e92, e93, if_pos (show 0 < x % 3 ∧ ¬ b5 = 0 by omega)]
             by_cases e : i = 5 * x + a + 1
             · rw [if_pos e, if_pos (show a < 4 ∧ i = 5 * x + a + 1 from ⟨by omega, e⟩)]
               simp only [Int.add_assoc]
             · rw [if_neg e, if_neg (show ¬ (a < 4 ∧ i = 5 * x + a + 1) from fun z => e z.2)])
          | (refine s_retV ok rfl (K _ ⟨fun q z1 z2 z3 => (zv_other z1).trans ((zv_other z3).trans (zv_other z2)), fun i => ?_, fun i => rfl, fun y => (show (if y = x then (if h 51 x < h 53 x then h 53 x else h 51 x) else h 51 y) = _ by rw [zmaxq])⟩)
             show (if i = 5 * x + a + 1 then h 49 (5 * x + a) + 0 + (h 23 a + h 23 a * (x % 3) * h 24 2 / 10) else h 49 i) = _
             rw [e49, e8, e92, if_neg (show ¬ (0 < x % 3 ∧ ¬ b5 = 0) by omega)]
             by_cases e : i = 5 * x + a + 1
             · rw [if_pos e, if_pos (show a < 4 ∧ i = 5 * x + a + 1 from ⟨by omega, e⟩)]
               simp only [Int.add_assoc]
             · rw [if_neg e, if_neg (show ¬ (a < 4 ∧ i = 5 * x + a + 1) from fun z => e z.2)])
          | (refine s_retV ok rfl (K _ ⟨fun q z1 z2 z3 => (zv_other z3).trans (zv_other z2), fun i => ?_, fun i => rfl, fun y => (show (if y = x then (if h 51 x < h 53 x then h 53 x else h 51 x) else h 51 y) = _ by rw [zmaxq])⟩)
             rw [if_neg (show ¬ (a < 4 ∧ i = 5 * x + a + 1) by omega)]
             rfl)
      · refine s_ldA1 ok rfl ?_
        refine s_getF ok rfl rfl rfl rfl ?_
        refine s_ci ok rfl ?_
        refine s_iald ok rfl (by exact rfl) (by exact rfl) (by omega) (by omega) ?_
        refine s_goto ok rfl ?_
        refine s_stI7 ok rfl rfl ?_
        refine s_ldA0 ok rfl ?_
        refine s_getF ok rfl rfl rfl rfl ?_
        refine s_ldI4 ok rfl ?_
        refine s_ci ok rfl ?_
        refine s_add ok rfl ?_
        refine s_ldA0 ok rfl ?_
        refine s_getF ok rfl rfl rfl rfl ?_
        refine s_ldI4 ok rfl ?_
        refine s_iald ok rfl (by exact rfl) (by exact rfl) (by omega) (by omega) ?_
        refine s_ldI7 ok rfl ?_
        refine s_add ok rfl ?_
        refine s_ldA1 ok rfl ?_
        refine s_ldI3 ok rfl ?_
        refine s_ldI6 ok rfl ?_
        refine s_callV ok rfl rfl rfl rfl rfl rfl (ct_ride15 (by omega) (by omega) (by omega) (by omega) (show 0 ≤ h 23 a by omega) (show h 23 a ≤ 90 by omega) (show 0 ≤ h 24 2 by omega) (show h 24 2 ≤ 9 by omega)) ?_
        refine s_add ok rfl ?_
        refine s_iast ok rfl (by exact rfl) (by exact rfl) (by omega) (by omega) (fun q => by cases q) ?_
        first
          | (refine s_retV ok rfl (K _ ⟨fun q z1 z2 z3 => (zv_other z1).trans ((zv_other z3).trans (zv_other z2)), fun i => ?_, fun i => rfl, fun y => (show (if y = x then (if h 51 x < h 53 x then h 53 x else h 51 x) else h 51 y) = _ by rw [zmaxq])⟩)
             show (if i = 5 * x + a + 1 then h 49 (5 * x + a) + h 24 3 + (h 23 a + h 23 a * (x % 3) * h 24 2 / 10) else h 49 i) = _
             rw [e49, e8, e92, e93, if_pos (show 0 < x % 3 ∧ ¬ b5 = 0 by omega)]
             by_cases e : i = 5 * x + a + 1
             · rw [if_pos e, if_pos (show a < 4 ∧ i = 5 * x + a + 1 from ⟨by omega, e⟩)]
               simp only [Int.add_assoc]
             · rw [if_neg e, if_neg (show ¬ (a < 4 ∧ i = 5 * x + a + 1) from fun z => e z.2)])
          | (refine s_retV ok rfl (K _ ⟨fun q z1 z2 z3 => (zv_other z1).trans ((zv_other z3).trans (zv_other z2)), fun i => ?_, fun i => rfl, fun y => (show (if y = x then (if h 51 x < h 53 x then h 53 x else h 51 x) else h 51 y) = _ by rw [zmaxq])⟩)
             show (if i = 5 * x + a + 1 then h 49 (5 * x + a) + 0 + (h 23 a + h 23 a * (x % 3) * h 24 2 / 10) else h 49 i) = _
             rw [e49, e8, e92, if_neg (show ¬ (0 < x % 3 ∧ ¬ b5 = 0) by omega)]
             by_cases e : i = 5 * x + a + 1
             · rw [if_pos e, if_pos (show a < 4 ∧ i = 5 * x + a + 1 from ⟨by omega, e⟩)]
               simp only [Int.add_assoc]
             · rw [if_neg e, if_neg (show ¬ (a < 4 ∧ i = 5 * x + a + 1) from fun z => e z.2)])
          | (refine s_retV ok rfl (K _ ⟨fun q z1 z2 z3 => (zv_other z3).trans (zv_other z2), fun i => ?_, fun i => rfl, fun y => (show (if y = x then (if h 51 x < h 53 x then h 53 x else h 51 x) else h 51 y) = _ by rw [zmaxq])⟩)
             rw [if_neg (show ¬ (a < 4 ∧ i = 5 * x + a + 1) by omega)]
             rfl)
