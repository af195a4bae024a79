/-! plans: what changes them -/
theorem cnP_4 {p : Int → Int} : cnP p (-4) = p 6 := if_neg (by omega)
theorem sg_4 {t : Int} : sg (-4) t = t := if_neg (by omega)
theorem cnP_zp {p : Int → Int} {i v w : Int} (hi : ¬ i = 6) : cnP (zp p i v) w = cnP p w := by
  unfold cnP
  rw [zp_ne (j := 6) (fun e => hi e.symm)]
theorem sg_in {w t : Int} (t0 : 0 ≤ t) : 0 ≤ sg w t := by
  unfold sg
  split <;> omega
theorem zp_pers {p : Int → Int} {i v s : Int} (s0 : 0 ≤ s) (hi : i < 19) : pK (zp p i v) s = pK p s ∧ pF (zp p i v) s = pF p s ∧ pFr (zp p i v) s = pFr p s ∧ pTo (zp p i v) s = pTo p s ∧ pBa (zp p i v) s = pBa p s := by
  unfold pK pF pFr pTo pBa
  exact ⟨zp_ne (by omega), zp_ne (by omega), zp_ne (by omega), zp_ne (by omega), zp_ne (by omega)⟩
theorem fW_zv {k : Nat → Nat × Nat} {h : Nat → Int → Int} {q : Nat} {j v : Int} (hq : 3 ≤ q ∧ q ≤ 86 ∧ q ≠ 14 ∧ q ≠ 25 ∧ q ≠ 36) : fW k h (zv h q j v) := fW_fix fun a ha => funext fun b => by
  rw [zv_other (by omega)]
theorem cR4_run {k : Nat → Nat × Nat} {h : Nat → Int → Int} {r : Nat → Int → Option Nat} {n : Nat} {p : Int → Int} {w : Int} (c : cR 4 5 6 7 8 9 10 11 12 13 k h r n p w) {x v : Int} (x0 : 0 ≤ x) (x1 : x < 4) : cR 4 5 6 7 8 9 10 11 12 13 k (zv h 12 x v) r n (zp p (7 + x) v) w := by
  obtain ⟨⟨c0, c5⟩, c1, c2, c3, c4, c6⟩ := c
  have fw : fW k h (zv h 12 x v) := fW_zv (by omega)
  have o : ∀ q, ¬ q = 12 → zv h 12 x v q = h q := fun q hq => zv_other hq
  have en : cnP (zp p (7 + x) v) w = cnP p w := cnP_zp (by omega)
  have e0 : zp p (7 + x) v 0 = p 0 := zp_ne (by omega)
  refine ⟨⟨?_, ?_⟩, fun t t0 t1 => ?_, c2, fun y y0 y1 => ?_, fun j j0 j1 => ?_, fun j j0 j1 => ?_⟩
  · rw [o _ (by omega), en]; exact c0
  · rw [o _ (by omega), e0]; exact c5
  · rw [en] at t1
    obtain ⟨u, u1, u2, u3, u4, u5⟩ := c1 t t0 t1
    have s0 := sg_in (w := w) t0
    obtain ⟨z1, z2, z3, z4, z5⟩ := zp_pers (p := p) (i := (7 + x)) (v := v) s0 (by omega)
    rw [z1, z2, z3, z4, z5, o _ (by omega), o _ (by omega), o _ (by omega)]
    exact ⟨u, u1, wk_fr u2 fw, u3, u4, u5⟩
  · rw [e0] at y1
    obtain ⟨y1, y2, y3⟩ := c3 y y0 y1
    rw [o _ (by omega), o _ (by omega), o _ (by omega), zp_ne (by omega), zp_ne (by omega), zp_ne (by omega)]
    exact ⟨y1, y2, y3⟩
  · rw [o _ (by omega)]
    exact c4 j j0 j1
  · obtain ⟨y1, y2⟩ := c6 j j0 j1
    refine ⟨?_, ?_⟩
    · by_cases e : j = x
      · rw [e, zv_is, zp_at]
      · rw [zv_at e, zp_ne (by omega)]
        exact y1
    · rw [o _ (by omega), zp_ne (by omega)]
      exact y2
theorem cR4_rule {k : Nat → Nat × Nat} {h : Nat → Int → Int} {r : Nat → Int → Option Nat} {n : Nat} {p : Int → Int} {w : Int} (c : cR 4 5 6 7 8 9 10 11 12 13 k h r n p w) {x v : Int} (x0 : 0 ≤ x) (x1 : x < 4) : cR 4 5 6 7 8 9 10 11 12 13 k (zv h 13 x v) r n (zp p (2 + x) v) w := by
  obtain ⟨⟨c0, c5⟩, c1, c2, c3, c4, c6⟩ := c
  have fw : fW k h (zv h 13 x v) := fW_zv (by omega)
  have o : ∀ q, ¬ q = 13 → zv h 13 x v q = h q := fun q hq => zv_other hq
  have en : cnP (zp p (2 + x) v) w = cnP p w := cnP_zp (by omega)
  have e0 : zp p (2 + x) v 0 = p 0 := zp_ne (by omega)
  refine ⟨⟨?_, ?_⟩, fun t t0 t1 => ?_, c2, fun y y0 y1 => ?_, fun j j0 j1 => ?_, fun j j0 j1 => ?_⟩
  · rw [o _ (by omega), en]; exact c0
  · rw [o _ (by omega), e0]; exact c5
  · rw [en] at t1
    obtain ⟨u, u1, u2, u3, u4, u5⟩ := c1 t t0 t1
    have s0 := sg_in (w := w) t0
    obtain ⟨z1, z2, z3, z4, z5⟩ := zp_pers (p := p) (i := (2 + x)) (v := v) s0 (by omega)
    rw [z1, z2, z3, z4, z5, o _ (by omega), o _ (by omega), o _ (by omega)]
    exact ⟨u, u1, wk_fr u2 fw, u3, u4, u5⟩
  · rw [e0] at y1
    obtain ⟨y1, y2, y3⟩ := c3 y y0 y1
    rw [o _ (by omega), o _ (by omega), o _ (by omega), zp_ne (by omega), zp_ne (by omega), zp_ne (by omega)]
    exact ⟨y1, y2, y3⟩
  · rw [o _ (by omega)]
    exact c4 j j0 j1
  · obtain ⟨y1, y2⟩ := c6 j j0 j1
    refine ⟨?_, ?_⟩
    · rw [o _ (by omega), zp_ne (by omega)]
      exact y1
    · by_cases e : j = x
      · rw [e, zv_is, zp_at]
      · rw [zv_at e, zp_ne (by omega)]
        exact y2
theorem cR4_start {k : Nat → Nat × Nat} {h : Nat → Int → Int} {r : Nat → Int → Option Nat} {n : Nat} {p : Int → Int} {w : Int} (c : cR 4 5 6 7 8 9 10 11 12 13 k h r n p w) {x v : Int} (x0 : 0 ≤ x) (x1 : x < 4) (t4 : p 0 ≤ 4) : cR 4 5 6 7 8 9 10 11 12 13 k (zv h 9 x v) r n (zp p (11 + 2 * x) v) w := by
  obtain ⟨⟨c0, c5⟩, c1, c2, c3, c4, c6⟩ := c
  have fw : fW k h (zv h 9 x v) := fW_zv (by omega)
  have o : ∀ q, ¬ q = 9 → zv h 9 x v q = h q := fun q hq => zv_other hq
  have en : cnP (zp p (11 + 2 * x) v) w = cnP p w := cnP_zp (by omega)
  have e0 : zp p (11 + 2 * x) v 0 = p 0 := zp_ne (by omega)
  refine ⟨⟨?_, ?_⟩, fun t t0 t1 => ?_, c2, fun y y0 y1 => ?_, fun j j0 j1 => ?_, fun j j0 j1 => ?_⟩
  · rw [o _ (by omega), en]; exact c0
  · rw [o _ (by omega), e0]; exact c5
  · rw [en] at t1
    obtain ⟨u, u1, u2, u3, u4, u5⟩ := c1 t t0 t1
    have s0 := sg_in (w := w) t0
    obtain ⟨z1, z2, z3, z4, z5⟩ := zp_pers (p := p) (i := (11 + 2 * x)) (v := v) s0 (by omega)
    rw [z1, z2, z3, z4, z5, o _ (by omega), o _ (by omega), o _ (by omega)]
    exact ⟨u, u1, wk_fr u2 fw, u3, u4, u5⟩
  · rw [e0] at y1
    obtain ⟨y1, y2, y3⟩ := c3 y y0 y1
    refine ⟨?_, ?_, ?_⟩
    · by_cases e : y = x
      · rw [e, zv_is, zp_at]
      · rw [zv_at e, zp_ne (by omega)]
        exact y1
    · rw [o _ (by omega), zp_ne (by omega)]
      exact y2
    · rw [o _ (by omega), zp_ne (by omega)]
      exact y3
  · rw [o _ (by omega)]
    exact c4 j j0 j1
  · obtain ⟨y1, y2⟩ := c6 j j0 j1
    rw [o _ (by omega), o _ (by omega), zp_ne (by omega), zp_ne (by omega)]
    exact ⟨y1, y2⟩
theorem cR4_seats {k : Nat → Nat × Nat} {h : Nat → Int → Int} {r : Nat → Int → Option Nat} {n : Nat} {p : Int → Int} {w : Int} (c : cR 4 5 6 7 8 9 10 11 12 13 k h r n p w) {x v : Int} (x0 : 0 ≤ x) (x1 : x < 4) (t4 : p 0 ≤ 4) : cR 4 5 6 7 8 9 10 11 12 13 k (zv h 10 x v) r n (zp p (11 + 2 * x + 1) v) w := by
  obtain ⟨⟨c0, c5⟩, c1, c2, c3, c4, c6⟩ := c
  have fw : fW k h (zv h 10 x v) := fW_zv (by omega)
  have o : ∀ q, ¬ q = 10 → zv h 10 x v q = h q := fun q hq => zv_other hq
  have en : cnP (zp p (11 + 2 * x + 1) v) w = cnP p w := cnP_zp (by omega)
  have e0 : zp p (11 + 2 * x + 1) v 0 = p 0 := zp_ne (by omega)
  refine ⟨⟨?_, ?_⟩, fun t t0 t1 => ?_, c2, fun y y0 y1 => ?_, fun j j0 j1 => ?_, fun j j0 j1 => ?_⟩
  · rw [o _ (by omega), en]; exact c0
  · rw [o _ (by omega), e0]; exact c5
  · rw [en] at t1
    obtain ⟨u, u1, u2, u3, u4, u5⟩ := c1 t t0 t1
    have s0 := sg_in (w := w) t0
    obtain ⟨z1, z2, z3, z4, z5⟩ := zp_pers (p := p) (i := (11 + 2 * x + 1)) (v := v) s0 (by omega)
    rw [z1, z2, z3, z4, z5, o _ (by omega), o _ (by omega), o _ (by omega)]
    exact ⟨u, u1, wk_fr u2 fw, u3, u4, u5⟩
  · rw [e0] at y1
    obtain ⟨y1, y2, y3⟩ := c3 y y0 y1
    refine ⟨?_, ?_, ?_⟩
    · rw [o _ (by omega), zp_ne (by omega)]
      exact y1
    · by_cases e : y = x
      · rw [e, zv_is, zp_at]
      · rw [zv_at e, zp_ne (by omega)]
        exact y2
    · rw [o _ (by omega), zp_ne (by omega)]
      exact y3
  · rw [o _ (by omega)]
    exact c4 j j0 j1
  · obtain ⟨y1, y2⟩ := c6 j j0 j1
    rw [o _ (by omega), o _ (by omega), zp_ne (by omega), zp_ne (by omega)]
    exact ⟨y1, y2⟩
theorem cR4_base {k : Nat → Nat × Nat} {h : Nat → Int → Int} {r : Nat → Int → Option Nat} {n : Nat} {p : Int → Int} {w : Int} (c : cR 4 5 6 7 8 9 10 11 12 13 k h r n p w) {x v : Int} (x0 : 0 ≤ x) (t4 : p 0 ≤ 4) : cR 4 5 6 7 8 9 10 11 12 13 k (zv h 8 x v) r n (zp p (19 + 5 * sg w x + 4) v) w := by
  obtain ⟨⟨c0, c5⟩, c1, c2, c3, c4, c6⟩ := c
  have fw : fW k h (zv h 8 x v) := fW_zv (by omega)
  have o : ∀ q, ¬ q = 8 → zv h 8 x v q = h q := fun q hq => zv_other hq
  have s9 := sg_in (w := w) x0
  have en : cnP (zp p (19 + 5 * sg w x + 4) v) w = cnP p w := cnP_zp (by omega)
  have e0 : zp p (19 + 5 * sg w x + 4) v 0 = p 0 := zp_ne (by omega)
  refine ⟨⟨?_, ?_⟩, fun t t0 t1 => ?_, c2, fun y y0 y1 => ?_, fun j j0 j1 => ?_, fun j j0 j1 => ?_⟩
  · rw [o _ (by omega), en]; exact c0
  · rw [o _ (by omega), e0]; exact c5
  · rw [en] at t1
    obtain ⟨u, u1, u2, u3, u4, u5⟩ := c1 t t0 t1
    have s0 := sg_in (w := w) t0
    refine ⟨u, u1, ?_, ?_, ?_, ?_⟩
    · unfold pK pF at *
      rw [zp_ne (by omega), zp_ne (by omega)]
      exact wk_fr u2 fw
    · unfold pFr at *
      rw [zp_ne (by omega), o _ (by omega)]
      exact u3
    · unfold pTo at *
      rw [zp_ne (by omega), o _ (by omega)]
      exact u4
    · unfold pBa at *
      by_cases e : t = x
      · rw [e, zv_is, zp_at]
      · have ne : ¬ sg w t = sg w x := by unfold sg; split <;> split <;> omega
        rw [zv_at e, zp_ne (by omega)]
        exact u5
  · rw [e0] at y1
    obtain ⟨y1, y2, y3⟩ := c3 y y0 y1
    rw [o _ (by omega), o _ (by omega), o _ (by omega), zp_ne (by omega), zp_ne (by omega), zp_ne (by omega)]
    exact ⟨y1, y2, y3⟩
  · rw [o _ (by omega)]
    exact c4 j j0 j1
  · obtain ⟨y1, y2⟩ := c6 j j0 j1
    rw [o _ (by omega), o _ (by omega), zp_ne (by omega), zp_ne (by omega)]
    exact ⟨y1, y2⟩
theorem cR15_run {k : Nat → Nat × Nat} {h : Nat → Int → Int} {r : Nat → Int → Option Nat} {n : Nat} {p : Int → Int} {w : Int} (c : cR 15 16 17 18 19 20 21 22 23 24 k h r n p w) {x v : Int} (x0 : 0 ≤ x) (x1 : x < 4) : cR 15 16 17 18 19 20 21 22 23 24 k (zv h 23 x v) r n (zp p (7 + x) v) w := by
  obtain ⟨⟨c0, c5⟩, c1, c2, c3, c4, c6⟩ := c
  have fw : fW k h (zv h 23 x v) := fW_zv (by omega)
  have o : ∀ q, ¬ q = 23 → zv h 23 x v q = h q := fun q hq => zv_other hq
  have en : cnP (zp p (7 + x) v) w = cnP p w := cnP_zp (by omega)
  have e0 : zp p (7 + x) v 0 = p 0 := zp_ne (by omega)
  refine ⟨⟨?_, ?_⟩, fun t t0 t1 => ?_, c2, fun y y0 y1 => ?_, fun j j0 j1 => ?_, fun j j0 j1 => ?_⟩
  · rw [o _ (by omega), en]; exact c0
  · rw [o _ (by omega), e0]; exact c5
  · rw [en] at t1
    obtain ⟨u, u1, u2, u3, u4, u5⟩ := c1 t t0 t1
    have s0 := sg_in (w := w) t0
    obtain ⟨z1, z2, z3, z4, z5⟩ := zp_pers (p := p) (i := (7 + x)) (v := v) s0 (by omega)
    rw [z1, z2, z3, z4, z5, o _ (by omega), o _ (by omega), o _ (by omega)]
    exact ⟨u, u1, wk_fr u2 fw, u3, u4, u5⟩
  · rw [e0] at y1
    obtain ⟨y1, y2, y3⟩ := c3 y y0 y1
    rw [o _ (by omega), o _ (by omega), o _ (by omega), zp_ne (by omega), zp_ne (by omega), zp_ne (by omega)]
    exact ⟨y1, y2, y3⟩
  · rw [o _ (by omega)]
    exact c4 j j0 j1
  · obtain ⟨y1, y2⟩ := c6 j j0 j1
    refine ⟨?_, ?_⟩
    · by_cases e : j = x
      · rw [e, zv_is, zp_at]
      · rw [zv_at e, zp_ne (by omega)]
        exact y1
    · rw [o _ (by omega), zp_ne (by omega)]
      exact y2
theorem cR15_rule {k : Nat → Nat × Nat} {h : Nat → Int → Int} {r : Nat → Int → Option Nat} {n : Nat} {p : Int → Int} {w : Int} (c : cR 15 16 17 18 19 20 21 22 23 24 k h r n p w) {x v : Int} (x0 : 0 ≤ x) (x1 : x < 4) : cR 15 16 17 18 19 20 21 22 23 24 k (zv h 24 x v) r n (zp p (2 + x) v) w := by
  obtain ⟨⟨c0, c5⟩, c1, c2, c3, c4, c6⟩ := c
  have fw : fW k h (zv h 24 x v) := fW_zv (by omega)
  have o : ∀ q, ¬ q = 24 → zv h 24 x v q = h q := fun q hq => zv_other hq
  have en : cnP (zp p (2 + x) v) w = cnP p w := cnP_zp (by omega)
  have e0 : zp p (2 + x) v 0 = p 0 := zp_ne (by omega)
  refine ⟨⟨?_, ?_⟩, fun t t0 t1 => ?_, c2, fun y y0 y1 => ?_, fun j j0 j1 => ?_, fun j j0 j1 => ?_⟩
  · rw [o _ (by omega), en]; exact c0
  · rw [o _ (by omega), e0]; exact c5
  · rw [en] at t1
    obtain ⟨u, u1, u2, u3, u4, u5⟩ := c1 t t0 t1
    have s0 := sg_in (w := w) t0
    obtain ⟨z1, z2, z3, z4, z5⟩ := zp_pers (p := p) (i := (2 + x)) (v := v) s0 (by omega)
    rw [z1, z2, z3, z4, z5, o _ (by omega), o _ (by omega), o _ (by omega)]
    exact ⟨u, u1, wk_fr u2 fw, u3, u4, u5⟩
  · rw [e0] at y1
    obtain ⟨y1, y2, y3⟩ := c3 y y0 y1
    rw [o _ (by omega), o _ (by omega), o _ (by omega), zp_ne (by omega), zp_ne (by omega), zp_ne (by omega)]
    exact ⟨y1, y2, y3⟩
  · rw [o _ (by omega)]
    exact c4 j j0 j1
  · obtain ⟨y1, y2⟩ := c6 j j0 j1
    refine ⟨?_, ?_⟩
    · rw [o _ (by omega), zp_ne (by omega)]
      exact y1
    · by_cases e : j = x
      · rw [e, zv_is, zp_at]
      · rw [zv_at e, zp_ne (by omega)]
        exact y2
theorem cR15_start {k : Nat → Nat × Nat} {h : Nat → Int → Int} {r : Nat → Int → Option Nat} {n : Nat} {p : Int → Int} {w : Int} (c : cR 15 16 17 18 19 20 21 22 23 24 k h r n p w) {x v : Int} (x0 : 0 ≤ x) (x1 : x < 4) (t4 : p 0 ≤ 4) : cR 15 16 17 18 19 20 21 22 23 24 k (zv h 20 x v) r n (zp p (11 + 2 * x) v) w := by
  obtain ⟨⟨c0, c5⟩, c1, c2, c3, c4, c6⟩ := c
  have fw : fW k h (zv h 20 x v) := fW_zv (by omega)
  have o : ∀ q, ¬ q = 20 → zv h 20 x v q = h q := fun q hq => zv_other hq
  have en : cnP (zp p (11 + 2 * x) v) w = cnP p w := cnP_zp (by omega)
  have e0 : zp p (11 + 2 * x) v 0 = p 0 := zp_ne (by omega)
  refine ⟨⟨?_, ?_⟩, fun t t0 t1 => ?_, c2, fun y y0 y1 => ?_, fun j j0 j1 => ?_, fun j j0 j1 => ?_⟩
  · rw [o _ (by omega), en]; exact c0
  · rw [o _ (by omega), e0]; exact c5
  · rw [en] at t1
    obtain ⟨u, u1, u2, u3, u4, u5⟩ := c1 t t0 t1
    have s0 := sg_in (w := w) t0
    obtain ⟨z1, z2, z3, z4, z5⟩ := zp_pers (p := p) (i := (11 + 2 * x)) (v := v) s0 (by omega)
    rw [z1, z2, z3, z4, z5, o _ (by omega), o _ (by omega), o _ (by omega)]
    exact ⟨u, u1, wk_fr u2 fw, u3, u4, u5⟩
  · rw [e0] at y1
    obtain ⟨y1, y2, y3⟩ := c3 y y0 y1
    refine ⟨?_, ?_, ?_⟩
    · by_cases e : y = x
      · rw [e, zv_is, zp_at]
      · rw [zv_at e, zp_ne (by omega)]
        exact y1
    · rw [o _ (by omega), zp_ne (by omega)]
      exact y2
    · rw [o _ (by omega), zp_ne (by omega)]
      exact y3
  · rw [o _ (by omega)]
    exact c4 j j0 j1
  · obtain ⟨y1, y2⟩ := c6 j j0 j1
    rw [o _ (by omega), o _ (by omega), zp_ne (by omega), zp_ne (by omega)]
    exact ⟨y1, y2⟩
theorem cR15_seats {k : Nat → Nat × Nat} {h : Nat → Int → Int} {r : Nat → Int → Option Nat} {n : Nat} {p : Int → Int} {w : Int} (c : cR 15 16 17 18 19 20 21 22 23 24 k h r n p w) {x v : Int} (x0 : 0 ≤ x) (x1 : x < 4) (t4 : p 0 ≤ 4) : cR 15 16 17 18 19 20 21 22 23 24 k (zv h 21 x v) r n (zp p (11 + 2 * x + 1) v) w := by
  obtain ⟨⟨c0, c5⟩, c1, c2, c3, c4, c6⟩ := c
  have fw : fW k h (zv h 21 x v) := fW_zv (by omega)
  have o : ∀ q, ¬ q = 21 → zv h 21 x v q = h q := fun q hq => zv_other hq
  have en : cnP (zp p (11 + 2 * x + 1) v) w = cnP p w := cnP_zp (by omega)
  have e0 : zp p (11 + 2 * x + 1) v 0 = p 0 := zp_ne (by omega)
  refine ⟨⟨?_, ?_⟩, fun t t0 t1 => ?_, c2, fun y y0 y1 => ?_, fun j j0 j1 => ?_, fun j j0 j1 => ?_⟩
  · rw [o _ (by omega), en]; exact c0
  · rw [o _ (by omega), e0]; exact c5
  · rw [en] at t1
    obtain ⟨u, u1, u2, u3, u4, u5⟩ := c1 t t0 t1
    have s0 := sg_in (w := w) t0
    obtain ⟨z1, z2, z3, z4, z5⟩ := zp_pers (p := p) (i := (11 + 2 * x + 1)) (v := v) s0 (by omega)
    rw [z1, z2, z3, z4, z5, o _ (by omega), o _ (by omega), o _ (by omega)]
    exact ⟨u, u1, wk_fr u2 fw, u3, u4, u5⟩
  · rw [e0] at y1
    obtain ⟨y1, y2, y3⟩ := c3 y y0 y1
    refine ⟨?_, ?_, ?_⟩
    · rw [o _ (by omega), zp_ne (by omega)]
      exact y1
    · by_cases e : y = x
      · rw [e, zv_is, zp_at]
      · rw [zv_at e, zp_ne (by omega)]
        exact y2
    · rw [o _ (by omega), zp_ne (by omega)]
      exact y3
  · rw [o _ (by omega)]
    exact c4 j j0 j1
  · obtain ⟨y1, y2⟩ := c6 j j0 j1
    rw [o _ (by omega), o _ (by omega), zp_ne (by omega), zp_ne (by omega)]
    exact ⟨y1, y2⟩
theorem cR15_base {k : Nat → Nat × Nat} {h : Nat → Int → Int} {r : Nat → Int → Option Nat} {n : Nat} {p : Int → Int} {w : Int} (c : cR 15 16 17 18 19 20 21 22 23 24 k h r n p w) {x v : Int} (x0 : 0 ≤ x) (t4 : p 0 ≤ 4) : cR 15 16 17 18 19 20 21 22 23 24 k (zv h 19 x v) r n (zp p (19 + 5 * sg w x + 4) v) w := by
  obtain ⟨⟨c0, c5⟩, c1, c2, c3, c4, c6⟩ := c
  have fw : fW k h (zv h 19 x v) := fW_zv (by omega)
  have o : ∀ q, ¬ q = 19 → zv h 19 x v q = h q := fun q hq => zv_other hq
  have s9 := sg_in (w := w) x0
  have en : cnP (zp p (19 + 5 * sg w x + 4) v) w = cnP p w := cnP_zp (by omega)
  have e0 : zp p (19 + 5 * sg w x + 4) v 0 = p 0 := zp_ne (by omega)
  refine ⟨⟨?_, ?_⟩, fun t t0 t1 => ?_, c2, fun y y0 y1 => ?_, fun j j0 j1 => ?_, fun j j0 j1 => ?_⟩
  · rw [o _ (by omega), en]; exact c0
  · rw [o _ (by omega), e0]; exact c5
  · rw [en] at t1
    obtain ⟨u, u1, u2, u3, u4, u5⟩ := c1 t t0 t1
    have s0 := sg_in (w := w) t0
    refine ⟨u, u1, ?_, ?_, ?_, ?_⟩
    · unfold pK pF at *
      rw [zp_ne (by omega), zp_ne (by omega)]
      exact wk_fr u2 fw
    · unfold pFr at *
      rw [zp_ne (by omega), o _ (by omega)]
      exact u3
    · unfold pTo at *
      rw [zp_ne (by omega), o _ (by omega)]
      exact u4
    · unfold pBa at *
      by_cases e : t = x
      · rw [e, zv_is, zp_at]
      · have ne : ¬ sg w t = sg w x := by unfold sg; split <;> split <;> omega
        rw [zv_at e, zp_ne (by omega)]
        exact u5
  · rw [e0] at y1
    obtain ⟨y1, y2, y3⟩ := c3 y y0 y1
    rw [o _ (by omega), o _ (by omega), o _ (by omega), zp_ne (by omega), zp_ne (by omega), zp_ne (by omega)]
    exact ⟨y1, y2, y3⟩
  · rw [o _ (by omega)]
    exact c4 j j0 j1
  · obtain ⟨y1, y2⟩ := c6 j j0 j1
    rw [o _ (by omega), o _ (by omega), zp_ne (by omega), zp_ne (by omega)]
    exact ⟨y1, y2⟩
def zxbAll : Bool := (List.range 16).all fun m => (List.range 4).all fun x => (List.range 4).all fun y => decide (zbt (zxb (m : Int) (x : Int)) (y : Int) = if (y : Int) = (x : Int) then 1 - zbt (m : Int) (x : Int) else zbt (m : Int) (y : Int))
theorem zxbAll_ok : zxbAll = true := by decide +kernel
theorem zxb_bit {m x y : Int} (m0 : 0 ≤ m) (m1 : m < 16) (x0 : 0 ≤ x) (x1 : x < 4) (y0 : 0 ≤ y) (y1 : y < 4) : zbt (zxb m x) y = if y = x then 1 - zbt m x else zbt m y := by
  have a := List.all_eq_true.mp zxbAll_ok m.toNat (List.mem_range.mpr (by omega))
  have b := List.all_eq_true.mp a x.toNat (List.mem_range.mpr (by omega))
  have c := of_decide_eq_true (List.all_eq_true.mp b y.toNat (List.mem_range.mpr (by omega)))
  rw [Int.toNat_of_nonneg m0, Int.toNat_of_nonneg x0, Int.toNat_of_nonneg y0] at c
  exact c
theorem zbt_top {m a : Int} (m0 : 0 ≤ m) (m1 : m < z2 a) : zbt m a = 0 := by
  unfold zbt
  rw [Int.ediv_eq_zero_of_lt m0 m1]
  rfl
theorem zbt_low {m x : Int} {y : Int} : zbt m x = 0 ∨ zbt m x = 1 := zbt_01 m x
theorem cR4_canc {k : Nat → Nat × Nat} {h : Nat → Int → Int} {r : Nat → Int → Option Nat} {n : Nat} {p : Int → Int} {w : Int} (c : cR 4 5 6 7 8 9 10 11 12 13 k h r n p w) {x : Int} (x0 : 0 ≤ x) (x1 : x < p 0) (t4 : p 0 ≤ 4) (m0 : 0 ≤ p 1) (m1 : p 1 < 16) : cR 4 5 6 7 8 9 10 11 12 13 k (zv h 11 x (1 - h 11 x)) r n (zp p 1 (zxb (p 1) x)) w := by
  obtain ⟨⟨c0, c5⟩, c1, c2, c3, c4, c6⟩ := c
  have fw : fW k h (zv h 11 x (1 - h 11 x)) := fW_zv (by omega)
  have o : ∀ q, ¬ q = 11 → zv h 11 x (1 - h 11 x) q = h q := fun q hq => zv_other hq
  have en : cnP (zp p 1 (zxb (p 1) x)) w = cnP p w := cnP_zp (by omega)
  have e0 : zp p 1 (zxb (p 1) x) 0 = p 0 := zp_ne (by omega)
  have hx := (c3 x x0 x1).2.2
  refine ⟨⟨?_, ?_⟩, fun t t0 t1 => ?_, c2, fun y y0 y1 => ?_, fun j j0 j1 => ?_, fun j j0 j1 => ?_⟩
  · rw [o _ (by omega), en]; exact c0
  · rw [o _ (by omega), e0]; exact c5
  · rw [en] at t1
    obtain ⟨u, u1, u2, u3, u4, u5⟩ := c1 t t0 t1
    have s0 := sg_in (w := w) t0
    obtain ⟨z1, z2, z3, z4, z5⟩ := zp_pers (p := p) (i := 1) (v := zxb (p 1) x) s0 (by omega)
    rw [z1, z2, z3, z4, z5, o _ (by omega), o _ (by omega), o _ (by omega)]
    exact ⟨u, u1, wk_fr u2 fw, u3, u4, u5⟩
  · rw [e0] at y1
    obtain ⟨y2, y3, y4⟩ := c3 y y0 y1
    rw [o _ (by omega), o _ (by omega), zp_ne (by omega), zp_ne (by omega), zp_at, zxb_bit m0 m1 x0 (by omega) y0 (by omega)]
    refine ⟨y2, y3, ?_⟩
    by_cases e : y = x
    · rw [if_pos e, e, zv_is, hx]
    · rw [if_neg e, zv_at e, y4]
  · by_cases e : j = x
    · rw [e, zv_is]
      have := c4 x x0 (by omega)
      omega
    · rw [zv_at e]
      exact c4 j j0 j1
  · obtain ⟨y1, y2⟩ := c6 j j0 j1
    rw [o _ (by omega), o _ (by omega), zp_ne (by omega), zp_ne (by omega)]
    exact ⟨y1, y2⟩
theorem cR4_train {k : Nat → Nat × Nat} {h : Nat → Int → Int} {r : Nat → Int → Option Nat} {n : Nat} {p : Int → Int} {w : Int} (c : cR 4 5 6 7 8 9 10 11 12 13 k h r n p w) {x v : Int} (p0 : 0 ≤ p 0) (t4 : p 0 < 4) (m0 : 0 ≤ p 1) (m1 : p 1 < z2 (p 0)) : cR 4 5 6 7 8 9 10 11 12 13 k (zv (zv (zv (zv h 9 (p 0) x) 10 (p 0) v) 11 (p 0) 0) 4 5 (p 0 + 1)) r n (zp (zp (zp p (11 + 2 * p 0) x) (11 + 2 * p 0 + 1) v) 0 (p 0 + 1)) w := by
  obtain ⟨⟨c0, c5⟩, c1, c2, c3, c4, c6⟩ := c
  have o : ∀ q, ¬ q = 4 → ¬ q = 9 → ¬ q = 10 → ¬ q = 11 → zv (zv (zv (zv h 9 (p 0) x) 10 (p 0) v) 11 (p 0) 0) 4 5 (p 0 + 1) q = h q := fun q h0 h5 h6 h7 => by
    rw [zv_other h0, zv_other h7, zv_other h6, zv_other h5]
  have fw : fW k h (zv (zv (zv (zv h 9 (p 0) x) 10 (p 0) v) 11 (p 0) 0) 4 5 (p 0 + 1)) := fW_fix fun q hq => o q (by omega) (by omega) (by omega) (by omega)
  have z9 : ∀ j, ¬ j = 0 → ¬ j = 11 + 2 * p 0 → ¬ j = 11 + 2 * p 0 + 1 → zp (zp (zp p (11 + 2 * p 0) x) (11 + 2 * p 0 + 1) v) 0 (p 0 + 1) j = p j := fun j h0 h1 h2 => by
    rw [zp_ne h0, zp_ne h2, zp_ne h1]
  have en : cnP (zp (zp (zp p (11 + 2 * p 0) x) (11 + 2 * p 0 + 1) v) 0 (p 0 + 1)) w = cnP p w := by
    rw [cnP_zp (by omega), cnP_zp (by omega), cnP_zp (by omega)]
  refine ⟨⟨?_, ?_⟩, fun t t0 t1 => ?_, c2, fun y y0 y1 => ?_, fun j j0 j1 => ?_, fun j j0 j1 => ?_⟩
  · rw [zv_at (by omega), zv_other (by omega), zv_other (by omega), zv_other (by omega), en]; exact c0
  · rw [zv_is, zp_at]
  · rw [en] at t1
    obtain ⟨u, u1, u2, u3, u4, u5⟩ := c1 t t0 t1
    have s0 := sg_in (w := w) t0
    rw [o _ (by omega) (by omega) (by omega) (by omega), o _ (by omega) (by omega) (by omega) (by omega), o _ (by omega) (by omega) (by omega) (by omega)]
    unfold pK pF pFr pTo pBa at *
    rw [z9 _ (by omega) (by omega) (by omega), z9 _ (by omega) (by omega) (by omega), z9 _ (by omega) (by omega) (by omega), z9 _ (by omega) (by omega) (by omega), z9 _ (by omega) (by omega) (by omega)]
    exact ⟨u, u1, wk_fr u2 fw, u3, u4, u5⟩
  · rw [zp_at] at y1
    have w5 : zv (zv (zv (zv h 9 (p 0) x) 10 (p 0) v) 11 (p 0) 0) 4 5 (p 0 + 1) 9 = zv h 9 (p 0) x 9 := by rw [zv_other (by omega), zv_other (by omega), zv_other (by omega)]
    have w6 : zv (zv (zv (zv h 9 (p 0) x) 10 (p 0) v) 11 (p 0) 0) 4 5 (p 0 + 1) 10 = zv (zv h 9 (p 0) x) 10 (p 0) v 10 := by rw [zv_other (by omega), zv_other (by omega)]
    have w7 : zv (zv (zv (zv h 9 (p 0) x) 10 (p 0) v) 11 (p 0) 0) 4 5 (p 0 + 1) 11 = zv (zv (zv h 9 (p 0) x) 10 (p 0) v) 11 (p 0) 0 11 := by rw [zv_other (by omega)]
    rw [w5, w6, w7]
    by_cases e : y = p 0
    · rw [e, zv_is, zv_is, zv_is]
      refine ⟨?_, ?_, ?_⟩
      · rw [zp_ne (by omega), zp_ne (by omega), zp_at]
      · rw [zp_ne (by omega), zp_at]
      · rw [z9 1 (by omega) (by omega) (by omega), zbt_top m0 m1]
    · obtain ⟨y2, y3, y4⟩ := c3 y y0 (by omega)
      rw [zv_at e, zv_at e, zv_at e, zv_other (by omega), zv_other (by omega), zv_other (by omega), z9 _ (by omega) (by omega) (by omega), z9 _ (by omega) (by omega) (by omega), z9 1 (by omega) (by omega) (by omega)]
      exact ⟨y2, y3, y4⟩
  · rw [zv_other (by omega)]
    by_cases e : j = p 0
    · rw [e, zv_is]
      exact Or.inl rfl
    · rw [zv_at e, zv_other (by omega), zv_other (by omega)]
      exact c4 j j0 j1
  · obtain ⟨y1, y2⟩ := c6 j j0 j1
    rw [o _ (by omega) (by omega) (by omega) (by omega), o _ (by omega) (by omega) (by omega) (by omega), z9 _ (by omega) (by omega) (by omega), z9 _ (by omega) (by omega) (by omega)]
    exact ⟨y1, y2⟩
theorem cR4_person {k : Nat → Nat × Nat} {h : Nat → Int → Int} {r : Nat → Int → Option Nat} {n : Nat} {p : Int → Int} (q : cR 4 5 6 7 8 9 10 11 12 13 k h r n p (-4)) {K F a b c : Int} {v : Nat} (p0 : 0 ≤ p 6) (p8 : p 6 < 8) (t4 : p 0 ≤ 4) (hv : wk k h v K F) (vn : v < n) : cR 4 5 6 7 8 9 10 11 12 13 k (zv (zv (zv (zv h 6 (p 6) a) 7 (p 6) b) 8 (p 6) c) 4 0 (p 6 + 1)) (zv r 5 (p 6) (some v)) n (pPn p (fun i : Int => if i = 0 then K else if i = 1 then F else if i = 2 then a else if i = 3 then b else c)) (-4) := by
  obtain ⟨⟨c0, c5⟩, c1, c2, c3, c4, c6⟩ := q
  have o : ∀ q, ¬ q = 4 → ¬ q = 6 → ¬ q = 7 → ¬ q = 8 → zv (zv (zv (zv h 6 (p 6) a) 7 (p 6) b) 8 (p 6) c) 4 0 (p 6 + 1) q = h q := fun q h0 h5 h6 h7 => by
    rw [zv_other h0, zv_other h7, zv_other h6, zv_other h5]
  have fw : fW k h (zv (zv (zv (zv h 6 (p 6) a) 7 (p 6) b) 8 (p 6) c) 4 0 (p 6 + 1)) := fW_fix fun q hq => o q (by omega) (by omega) (by omega) (by omega)
  have w2 : zv (zv (zv (zv h 6 (p 6) a) 7 (p 6) b) 8 (p 6) c) 4 0 (p 6 + 1) 6 = zv h 6 (p 6) a 6 := by rw [zv_other (by omega), zv_other (by omega), zv_other (by omega)]
  have w3 : zv (zv (zv (zv h 6 (p 6) a) 7 (p 6) b) 8 (p 6) c) 4 0 (p 6 + 1) 7 = zv (zv h 6 (p 6) a) 7 (p 6) b 7 := by rw [zv_other (by omega), zv_other (by omega)]
  have w4 : zv (zv (zv (zv h 6 (p 6) a) 7 (p 6) b) 8 (p 6) c) 4 0 (p 6 + 1) 8 = zv (zv (zv h 6 (p 6) a) 7 (p 6) b) 8 (p 6) c 8 := by rw [zv_other (by omega)]
  have lo : ∀ j, ¬ j = 6 → j < 19 → pPn p (fun i : Int => if i = 0 then K else if i = 1 then F else if i = 2 then a else if i = 3 then b else c) j = p j := fun j h1 h2 => by
    unfold pPn
    rw [if_neg h1, if_neg (by omega)]
  rw [cnP_4] at c0 c1
  unfold cR
  rw [cnP_4]
  have p6 : pPn p (fun i : Int => if i = 0 then K else if i = 1 then F else if i = 2 then a else if i = 3 then b else c) 6 = p 6 + 1 := if_pos rfl
  rw [p6]
  refine ⟨⟨?_, ?_⟩, fun t t0 t1 => ?_, fun t t0 t1 => ?_, fun y y0 y1 => ?_, fun j j0 j1 => ?_, fun j j0 j1 => ?_⟩
  · rw [zv_is]
  · rw [zv_at (by omega), zv_other (by omega), zv_other (by omega), zv_other (by omega), lo 0 (by omega) (by omega)]; exact c5
  · rw [sg_4, w2, w3, w4]
    have pe : ∀ f : Int, 0 ≤ f → f < 5 → pPn p (fun i : Int => if i = 0 then K else if i = 1 then F else if i = 2 then a else if i = 3 then b else c) (19 + 5 * t + f) = if t = p 6 then (fun i : Int => if i = 0 then K else if i = 1 then F else if i = 2 then a else if i = 3 then b else c) f else p (19 + 5 * t + f) := fun f f0 f1 => by
      unfold pPn
      rw [if_neg (by omega)]
      by_cases e : t = p 6
      · rw [if_pos e, if_pos (by omega), show 19 + 5 * t + f - (19 + 5 * p 6) = f by omega]
      · rw [if_neg e, if_neg (by omega)]
    have pe0 := pe 0 (by omega) (by omega)
    rw [Int.add_zero] at pe0
    unfold pK pF pFr pTo pBa
    rw [pe0, pe 1 (by omega) (by omega), pe 2 (by omega) (by omega), pe 3 (by omega) (by omega), pe 4 (by omega) (by omega)]
    by_cases e : t = p 6
    · rw [if_pos e, if_pos e, if_pos e, if_pos e, if_pos e, e, zv_is, zv_is, zv_is, zv_is]
      exact ⟨v, rfl, wk_fr hv fw, rfl, rfl, rfl⟩
    · obtain ⟨u, u1, u2, u3, u4, u5⟩ := c1 t t0 (by omega)
      rw [sg_4] at u2 u3 u4 u5
      rw [if_neg e, if_neg e, if_neg e, if_neg e, if_neg e, zv_at e, zv_at e, zv_at e, zv_at e, zv_other (by omega), zv_other (by omega), zv_other (by omega)]
      exact ⟨u, u1, wk_fr u2 fw, u3, u4, u5⟩
  · by_cases e : t = p 6
    · rw [e, zv_is]
      exact ⟨v, _, rfl, hv.1, (wk_c hv).1, vn⟩
    · rw [zv_at e]
      exact c2 t t0 t1
  · rw [lo 0 (by omega) (by omega)] at y1
    rw [o _ (by omega) (by omega) (by omega) (by omega), o _ (by omega) (by omega) (by omega) (by omega), o _ (by omega) (by omega) (by omega) (by omega), lo _ (by omega) (by omega), lo _ (by omega) (by omega), lo _ (by omega) (by omega)]
    exact c3 y y0 y1
  · rw [o _ (by omega) (by omega) (by omega) (by omega)]
    exact c4 j j0 j1
  · rw [o _ (by omega) (by omega) (by omega) (by omega), o _ (by omega) (by omega) (by omega) (by omega), lo _ (by omega) (by omega), lo _ (by omega) (by omega)]
    exact c6 j j0 j1
theorem ct_addPerson4 {E : zE} {d : Nat} {k : Nat → Nat × Nat} {h : Nat → Int → Int} {r : Nat → Int → Option Nat} {l : Nat → Nat → Int64} {n : Nat} {p : Int → Int} (hR : cR 4 5 6 7 8 9 10 11 12 13 k h r n p (-4)) {K F a b c : Int} {v : Nat} (p60 : 0 ≤ p 6) (p68 : p 6 ≤ 8) (t4 : p 0 ≤ 4) (hv : wk k h v K F) (vn : v < n) : zCT E d M_X3_addPerson [.ref 4, .ref v, .int (iI (a)), .int (iI (b)), .int (iI (c))] (zJ (k, h, r, l, n)) 0 0 (zVx (.int (iI (if p 6 < 8 then 1 else 0))) (fun s => ∃ g r9, s = zJ (k, g, r9, l, n) ∧ (∀ q : Nat, q < 4 ∨ 13 < q → g q = h q) ∧ (∀ q, ¬ q = 5 → r9 q = r q) ∧ cR 4 5 6 7 8 9 10 11 12 13 k g r9 n (if p 6 < 8 then pPn p (fun i : Int => if i = 0 then K else if i = 1 then F else if i = 2 then a else if i = 3 then b else c) else p) (-4))) := by
  have ok := ok_X3_addPerson
  refine zCT_of pn_X3_addPerson (Nat.le_of_ble_eq_true rfl) ?_
  show zGo _ _ _ _ _ _ 0 ([some (.ref 4), some (.ref v), some (.int (iI (a))), some (.int (iI (b))), some (.int (iI (c)))], [], _, _, _)
  have e6 : h 4 0 = p 6 := (by have := hR.1.1; rw [cnP_4] at this; exact this)
  refine s_ldA0 ok rfl ?_
  refine s_getJ 0 ok rfl rfl rfl rfl ?_
  rw [e6]
  refine s_ci ok rfl ?_
  refine s_c_lt ok rfl ⟨by omega, by omega⟩ ⟨by omega, by omega⟩ (fun c6 => ?_) (fun c6 => ?_)
  · refine s_ldA0 ok rfl ?_
    refine s_getF ok rfl rfl rfl rfl ?_
    refine s_ldA0 ok rfl ?_
    refine s_getJ 0 ok rfl rfl rfl rfl ?_
    rw [e6]
    refine s_ldA1 ok rfl ?_
    refine s_aast ok rfl (by exact rfl) (by exact rfl) (by exact rfl) (by omega) (by omega) hv.1 (wk_c hv).1 ?_
    refine s_ldA0 ok rfl ?_
    refine s_getF ok rfl rfl rfl rfl ?_
    refine s_ldA0 ok rfl ?_
    refine s_getJ 0 ok rfl rfl rfl rfl ?_
    rw [e6]
    refine s_ldI2 ok rfl ?_
    refine s_iast ok rfl (by exact rfl) (by exact rfl) (by omega) (by omega) (fun q => by cases q) ?_
    refine s_ldA0 ok rfl ?_
    refine s_getF ok rfl rfl rfl rfl ?_
    refine s_ldA0 ok rfl ?_
    refine s_getJ 0 ok rfl rfl rfl rfl ?_
    rw [show zv h 6 (p 6) a 4 0 = p 6 from (congrFun (zv_other (by omega)) 0).trans e6]
    refine s_ldI3 ok rfl ?_
    refine s_iast ok rfl (by exact rfl) (by exact rfl) (by omega) (by omega) (fun q => by cases q) ?_
    refine s_ldA0 ok rfl ?_
    refine s_getF ok rfl rfl rfl rfl ?_
    refine s_ldA0 ok rfl ?_
    refine s_getJ 0 ok rfl rfl rfl rfl ?_
    rw [show zv (zv h 6 (p 6) a) 7 (p 6) b 4 0 = p 6 from (congrFun (zv_other (by omega)) 0).trans ((congrFun (zv_other (by omega)) 0).trans e6)]
    refine s_ldI4 ok rfl ?_
    refine s_iast ok rfl (by exact rfl) (by exact rfl) (by omega) (by omega) (fun q => by cases q) ?_
    refine s_ldA0 ok rfl ?_
    refine s_dupA ok rfl ?_
    refine s_getJ 0 ok rfl rfl rfl rfl ?_
    rw [show zv (zv (zv h 6 (p 6) a) 7 (p 6) b) 8 (p 6) c 4 0 = p 6 from (congrFun (zv_other (by omega)) 0).trans ((congrFun (zv_other (by omega)) 0).trans ((congrFun (zv_other (by omega)) 0).trans e6))]
    refine s_ci ok rfl ?_
    refine s_add ok rfl ?_
    refine s_putJ 0 ok rfl rfl rfl rfl (fun q => by cases q) ?_
    refine s_ci ok rfl ?_
    refine s_retZ ok rfl (by first | exact Or.inl rfl | exact Or.inr rfl) ⟨congrArg (fun z => some (Value.int (iI z))) (if_pos c6).symm, _, _, rfl, (fun q hq => by rw [zv_other (by omega), zv_other (by omega), zv_other (by omega), zv_other (by omega)]), (fun q hq => zv_other hq), (by rw [if_pos c6]; exact cR4_person hR p60 c6 t4 hv vn)⟩
  · refine s_ci ok rfl ?_
    refine s_retZ ok rfl (by first | exact Or.inl rfl | exact Or.inr rfl) ⟨congrArg (fun z => some (Value.int (iI z))) (if_neg (by omega)).symm, h, r, rfl, ⟨fun _ _ => rfl, fun _ _ => rfl, (by rw [if_neg (by omega)]; exact hR)⟩⟩
theorem ct_addTrain4 {E : zE} {d : Nat} {k : Nat → Nat × Nat} {h : Nat → Int → Int} {r : Nat → Int → Option Nat} {l : Nat → Nat → Int64} {n : Nat} {p : Int → Int} {w : Int} (hR : cR 4 5 6 7 8 9 10 11 12 13 k h r n p w) {a b : Int} (p0 : 0 ≤ p 0) (t4 : p 0 ≤ 4) (m0 : 0 ≤ p 1) (m1 : p 1 < z2 (p 0)) : zCT E d M_X3_addTrain [.ref 4, .int (iI (a)), .int (iI (b))] (zJ (k, h, r, l, n)) 0 0 (zVx (.int (iI (if p 0 < 4 then 1 else 0))) (fun s => ∃ g, s = zJ (k, g, r, l, n) ∧ (∀ q : Nat, q < 4 ∨ 13 < q → g q = h q) ∧ cR 4 5 6 7 8 9 10 11 12 13 k g r n (if p 0 < 4 then zp (zp (zp p (11 + 2 * p 0) a) (11 + 2 * p 0 + 1) b) 0 (p 0 + 1) else p) w)) := by
  have ok := ok_X3_addTrain
  refine zCT_of pn_X3_addTrain (Nat.le_of_ble_eq_true rfl) ?_
  show zGo _ _ _ _ _ _ 0 ([some (.ref 4), some (.int (iI (a))), some (.int (iI (b)))], [], _, _, _)
  have e5 := hR.1.2
  refine s_ldA0 ok rfl ?_
  refine s_getJ 5 ok rfl rfl rfl rfl ?_
  rw [e5]
  refine s_ci ok rfl ?_
  refine s_c_lt ok rfl ⟨by omega, by omega⟩ ⟨by omega, by omega⟩ (fun c5 => ?_) (fun c5 => ?_)
  · refine s_ldA0 ok rfl ?_
    refine s_getF ok rfl rfl rfl rfl ?_
    refine s_ldA0 ok rfl ?_
    refine s_getJ 5 ok rfl rfl rfl rfl ?_
    rw [e5]
    refine s_ldI1 ok rfl ?_
    refine s_iast ok rfl (by exact rfl) (by exact rfl) (by omega) (by omega) (fun q => by cases q) ?_
    refine s_ldA0 ok rfl ?_
    refine s_getF ok rfl rfl rfl rfl ?_
    refine s_ldA0 ok rfl ?_
    refine s_getJ 5 ok rfl rfl rfl rfl ?_
    rw [show zv h 9 (p 0) a 4 5 = p 0 from (congrFun (zv_other (by omega)) 5).trans e5]
    refine s_ldI2 ok rfl ?_
    refine s_iast ok rfl (by exact rfl) (by exact rfl) (by omega) (by omega) (fun q => by cases q) ?_
    refine s_ldA0 ok rfl ?_
    refine s_getF ok rfl rfl rfl rfl ?_
    refine s_ldA0 ok rfl ?_
    refine s_getJ 5 ok rfl rfl rfl rfl ?_
    rw [show zv (zv h 9 (p 0) a) 10 (p 0) b 4 5 = p 0 from (congrFun (zv_other (by omega)) 5).trans ((congrFun (zv_other (by omega)) 5).trans e5)]
    refine s_ci ok rfl ?_
    refine s_iast ok rfl (by exact rfl) (by exact rfl) (by omega) (by omega) (fun _ => by first | exact Or.inl rfl | exact Or.inr rfl) ?_
    refine s_ldA0 ok rfl ?_
    refine s_dupA ok rfl ?_
    refine s_getJ 5 ok rfl rfl rfl rfl ?_
    rw [show zv (zv (zv h 9 (p 0) a) 10 (p 0) b) 11 (p 0) 0 4 5 = p 0 from (congrFun (zv_other (by omega)) 5).trans ((congrFun (zv_other (by omega)) 5).trans ((congrFun (zv_other (by omega)) 5).trans e5))]
    refine s_ci ok rfl ?_
    refine s_add ok rfl ?_
    refine s_putJ 5 ok rfl rfl rfl rfl (fun q => by cases q) ?_
    refine s_ci ok rfl ?_
    refine s_retZ ok rfl (by first | exact Or.inl rfl | exact Or.inr rfl) ⟨congrArg (fun z => some (Value.int (iI z))) (if_pos c5).symm, _, rfl, (fun q hq => by rw [zv_other (by omega), zv_other (by omega), zv_other (by omega), zv_other (by omega)]), (by rw [if_pos c5]; exact cR4_train hR p0 c5 m0 m1)⟩
  · refine s_ci ok rfl ?_
    refine s_retZ ok rfl (by first | exact Or.inl rfl | exact Or.inr rfl) ⟨congrArg (fun z => some (Value.int (iI z))) (if_neg (by omega)).symm, h, rfl, (fun _ _ => rfl), (by rw [if_neg (by omega)]; exact hR)⟩
theorem ct_turn4 {E : zE} {d : Nat} {k : Nat → Nat × Nat} {h : Nat → Int → Int} {r : Nat → Int → Option Nat} {l : Nat → Nat → Int64} {n : Nat} {p : Int → Int} {w : Int} (hR : cR 4 5 6 7 8 9 10 11 12 13 k h r n p w) {t : Int} (t0 : 0 ≤ t) (t1 : t < p 0) (t4 : p 0 ≤ 4) (m0 : 0 ≤ p 1) (m1 : p 1 < 16) : zCT E (d + 1) M_X3_turnCancelled [.ref 4, .int (iI (t))] (zJ (k, h, r, l, n)) 0 0 (zUx (fun s => ∃ g, s = zJ (k, g, r, l, n) ∧ g = zv h 11 t (1 - h 11 t) ∧ cR 4 5 6 7 8 9 10 11 12 13 k g r n (zp p 1 (zxb (p 1) t)) w)) := by
  have ok := ok_X3_turnCancelled
  refine zCT_of pn_X3_turnCancelled (Nat.le_of_ble_eq_true rfl) ?_
  show zGo _ _ _ _ _ _ 0 ([some (.ref 4), some (.int (iI (t)))], [], _, _, _)
  have h01 := hR.2.2.2.2.1 t t0 (by omega)
  refine s_ldA0 ok rfl ?_
  refine s_ldI1 ok rfl ?_
  refine s_callV ok rfl rfl rfl rfl rfl rfl (ct_pisTrain4 hR.1.2 (by omega) t4 ⟨by omega, by omega⟩) ?_
  refine s_if_eq ok rfl zif01 (fun c5 => ?_) (fun c5 => ?_)
  · refine s_retV ok rfl (by first | exact absurd (And.intro t0 t1) (zif_f c5) | exact ⟨rfl, _, rfl, (by congr 1; omega), (by have z := cR4_canc hR t0 t1 t4 m0 m1; rw [show (1 - h 11 t) = _ from (by omega : 1 - h 11 t = 1)] at z; exact z)⟩ | exact ⟨rfl, _, rfl, (by congr 1; omega), (by have z := cR4_canc hR t0 t1 t4 m0 m1; rw [show (1 - h 11 t) = _ from (by omega : 1 - h 11 t = 0)] at z; exact z)⟩)
  · refine s_ldA0 ok rfl ?_
    refine s_getF ok rfl rfl rfl rfl ?_
    refine s_ldI1 ok rfl ?_
    refine s_ldA0 ok rfl ?_
    refine s_getF ok rfl rfl rfl rfl ?_
    refine s_ldI1 ok rfl ?_
    refine s_iald ok rfl (by exact rfl) (by exact rfl) (by omega) (by omega) ?_
    refine s_if_eq ok rfl (by rcases h01 with e | e <;> rw [e] <;> exact ⟨by omega, by omega⟩) (fun c19 => ?_) (fun c19 => ?_)
    · refine s_ci ok rfl ?_
      refine s_goto ok rfl ?_
      refine s_iast ok rfl (by exact rfl) (by exact rfl) (by omega) (by omega) (fun _ => by first | exact Or.inl rfl | exact Or.inr rfl) ?_
      refine s_retV ok rfl (by first | exact absurd (And.intro t0 t1) (zif_f c5) | exact ⟨rfl, _, rfl, (by congr 1; omega), (by have z := cR4_canc hR t0 t1 t4 m0 m1; rw [show (1 - h 11 t) = _ from (by omega : 1 - h 11 t = 1)] at z; exact z)⟩ | exact ⟨rfl, _, rfl, (by congr 1; omega), (by have z := cR4_canc hR t0 t1 t4 m0 m1; rw [show (1 - h 11 t) = _ from (by omega : 1 - h 11 t = 0)] at z; exact z)⟩)
    · refine s_ci ok rfl ?_
      refine s_iast ok rfl (by exact rfl) (by exact rfl) (by omega) (by omega) (fun _ => by first | exact Or.inl rfl | exact Or.inr rfl) ?_
      refine s_retV ok rfl (by first | exact absurd (And.intro t0 t1) (zif_f c5) | exact ⟨rfl, _, rfl, (by congr 1; omega), (by have z := cR4_canc hR t0 t1 t4 m0 m1; rw [show (1 - h 11 t) = _ from (by omega : 1 - h 11 t = 1)] at z; exact z)⟩ | exact ⟨rfl, _, rfl, (by congr 1; omega), (by have z := cR4_canc hR t0 t1 t4 m0 m1; rw [show (1 - h 11 t) = _ from (by omega : 1 - h 11 t = 0)] at z; exact z)⟩)
theorem cR15_canc {k : Nat → Nat × Nat} {h : Nat → Int → Int} {r : Nat → Int → Option Nat} {n : Nat} {p : Int → Int} {w : Int} (c : cR 15 16 17 18 19 20 21 22 23 24 k h r n p w) {x : Int} (x0 : 0 ≤ x) (x1 : x < p 0) (t4 : p 0 ≤ 4) (m0 : 0 ≤ p 1) (m1 : p 1 < 16) : cR 15 16 17 18 19 20 21 22 23 24 k (zv h 22 x (1 - h 22 x)) r n (zp p 1 (zxb (p 1) x)) w := by
  obtain ⟨⟨c0, c5⟩, c1, c2, c3, c4, c6⟩ := c
  have fw : fW k h (zv h 22 x (1 - h 22 x)) := fW_zv (by omega)
  have o : ∀ q, ¬ q = 22 → zv h 22 x (1 - h 22 x) q = h q := fun q hq => zv_other hq
  have en : cnP (zp p 1 (zxb (p 1) x)) w = cnP p w := cnP_zp (by omega)
  have e0 : zp p 1 (zxb (p 1) x) 0 = p 0 := zp_ne (by omega)
  have hx := (c3 x x0 x1).2.2
  refine ⟨⟨?_, ?_⟩, fun t t0 t1 => ?_, c2, fun y y0 y1 => ?_, fun j j0 j1 => ?_, fun j j0 j1 => ?_⟩
  · rw [o _ (by omega), en]; exact c0
  · rw [o _ (by omega), e0]; exact c5
  · rw [en] at t1
    obtain ⟨u, u1, u2, u3, u4, u5⟩ := c1 t t0 t1
    have s0 := sg_in (w := w) t0
    obtain ⟨z1, z2, z3, z4, z5⟩ := zp_pers (p := p) (i := 1) (v := zxb (p 1) x) s0 (by omega)
    rw [z1, z2, z3, z4, z5, o _ (by omega), o _ (by omega), o _ (by omega)]
    exact ⟨u, u1, wk_fr u2 fw, u3, u4, u5⟩
  · rw [e0] at y1
    obtain ⟨y2, y3, y4⟩ := c3 y y0 y1
    rw [o _ (by omega), o _ (by omega), zp_ne (by omega), zp_ne (by omega), zp_at, zxb_bit m0 m1 x0 (by omega) y0 (by omega)]
    refine ⟨y2, y3, ?_⟩
    by_cases e : y = x
    · rw [if_pos e, e, zv_is, hx]
    · rw [if_neg e, zv_at e, y4]
  · by_cases e : j = x
    · rw [e, zv_is]
      have := c4 x x0 (by omega)
      omega
    · rw [zv_at e]
      exact c4 j j0 j1
  · obtain ⟨y1, y2⟩ := c6 j j0 j1
    rw [o _ (by omega), o _ (by omega), zp_ne (by omega), zp_ne (by omega)]
    exact ⟨y1, y2⟩
theorem cR15_train {k : Nat → Nat × Nat} {h : Nat → Int → Int} {r : Nat → Int → Option Nat} {n : Nat} {p : Int → Int} {w : Int} (c : cR 15 16 17 18 19 20 21 22 23 24 k h r n p w) {x v : Int} (p0 : 0 ≤ p 0) (t4 : p 0 < 4) (m0 : 0 ≤ p 1) (m1 : p 1 < z2 (p 0)) : cR 15 16 17 18 19 20 21 22 23 24 k (zv (zv (zv (zv h 20 (p 0) x) 21 (p 0) v) 22 (p 0) 0) 15 5 (p 0 + 1)) r n (zp (zp (zp p (11 + 2 * p 0) x) (11 + 2 * p 0 + 1) v) 0 (p 0 + 1)) w := by
  obtain ⟨⟨c0, c5⟩, c1, c2, c3, c4, c6⟩ := c
  have o : ∀ q, ¬ q = 15 → ¬ q = 20 → ¬ q = 21 → ¬ q = 22 → zv (zv (zv (zv h 20 (p 0) x) 21 (p 0) v) 22 (p 0) 0) 15 5 (p 0 + 1) q = h q := fun q h0 h5 h6 h7 => by
    rw [zv_other h0, zv_other h7, zv_other h6, zv_other h5]
  have fw : fW k h (zv (zv (zv (zv h 20 (p 0) x) 21 (p 0) v) 22 (p 0) 0) 15 5 (p 0 + 1)) := fW_fix fun q hq => o q (by omega) (by omega) (by omega) (by omega)
  have z9 : ∀ j, ¬ j = 0 → ¬ j = 11 + 2 * p 0 → ¬ j = 11 + 2 * p 0 + 1 → zp (zp (zp p (11 + 2 * p 0) x) (11 + 2 * p 0 + 1) v) 0 (p 0 + 1) j = p j := fun j h0 h1 h2 => by
    rw [zp_ne h0, zp_ne h2, zp_ne h1]
  have en : cnP (zp (zp (zp p (11 + 2 * p 0) x) (11 + 2 * p 0 + 1) v) 0 (p 0 + 1)) w = cnP p w := by
    rw [cnP_zp (by omega), cnP_zp (by omega), cnP_zp (by omega)]
  refine ⟨⟨?_, ?_⟩, fun t t0 t1 => ?_, c2, fun y y0 y1 => ?_, fun j j0 j1 => ?_, fun j j0 j1 => ?_⟩
  · rw [zv_at (by omega), zv_other (by omega), zv_other (by omega), zv_other (by omega), en]; exact c0
  · rw [zv_is, zp_at]
  · rw [en] at t1
    obtain ⟨u, u1, u2, u3, u4, u5⟩ := c1 t t0 t1
    have s0 := sg_in (w := w) t0
    rw [o _ (by omega) (by omega) (by omega) (by omega), o _ (by omega) (by omega) (by omega) (by omega), o _ (by omega) (by omega) (by omega) (by omega)]
    unfold pK pF pFr pTo pBa at *
    rw [z9 _ (by omega) (by omega) (by omega), z9 _ (by omega) (by omega) (by omega), z9 _ (by omega) (by omega) (by omega), z9 _ (by omega) (by omega) (by omega), z9 _ (by omega) (by omega) (by omega)]
    exact ⟨u, u1, wk_fr u2 fw, u3, u4, u5⟩
  · rw [zp_at] at y1
    have w5 : zv (zv (zv (zv h 20 (p 0) x) 21 (p 0) v) 22 (p 0) 0) 15 5 (p 0 + 1) 20 = zv h 20 (p 0) x 20 := by rw [zv_other (by omega), zv_other (by omega), zv_other (by omega)]
    have w6 : zv (zv (zv (zv h 20 (p 0) x) 21 (p 0) v) 22 (p 0) 0) 15 5 (p 0 + 1) 21 = zv (zv h 20 (p 0) x) 21 (p 0) v 21 := by rw [zv_other (by omega), zv_other (by omega)]
    have w7 : zv (zv (zv (zv h 20 (p 0) x) 21 (p 0) v) 22 (p 0) 0) 15 5 (p 0 + 1) 22 = zv (zv (zv h 20 (p 0) x) 21 (p 0) v) 22 (p 0) 0 22 := by rw [zv_other (by omega)]
    rw [w5, w6, w7]
    by_cases e : y = p 0
    · rw [e, zv_is, zv_is, zv_is]
      refine ⟨?_, ?_, ?_⟩
      · rw [zp_ne (by omega), zp_ne (by omega), zp_at]
      · rw [zp_ne (by omega), zp_at]
      · rw [z9 1 (by omega) (by omega) (by omega), zbt_top m0 m1]
    · obtain ⟨y2, y3, y4⟩ := c3 y y0 (by omega)
      rw [zv_at e, zv_at e, zv_at e, zv_other (by omega), zv_other (by omega), zv_other (by omega), z9 _ (by omega) (by omega) (by omega), z9 _ (by omega) (by omega) (by omega), z9 1 (by omega) (by omega) (by omega)]
      exact ⟨y2, y3, y4⟩
  · rw [zv_other (by omega)]
    by_cases e : j = p 0
    · rw [e, zv_is]
      exact Or.inl rfl
    · rw [zv_at e, zv_other (by omega), zv_other (by omega)]
      exact c4 j j0 j1
  · obtain ⟨y1, y2⟩ := c6 j j0 j1
    rw [o _ (by omega) (by omega) (by omega) (by omega), o _ (by omega) (by omega) (by omega) (by omega), z9 _ (by omega) (by omega) (by omega), z9 _ (by omega) (by omega) (by omega)]
    exact ⟨y1, y2⟩
theorem cR15_person {k : Nat → Nat × Nat} {h : Nat → Int → Int} {r : Nat → Int → Option Nat} {n : Nat} {p : Int → Int} (q : cR 15 16 17 18 19 20 21 22 23 24 k h r n p (-4)) {K F a b c : Int} {v : Nat} (p0 : 0 ≤ p 6) (p8 : p 6 < 8) (t4 : p 0 ≤ 4) (hv : wk k h v K F) (vn : v < n) : cR 15 16 17 18 19 20 21 22 23 24 k (zv (zv (zv (zv h 17 (p 6) a) 18 (p 6) b) 19 (p 6) c) 15 0 (p 6 + 1)) (zv r 16 (p 6) (some v)) n (pPn p (fun i : Int => if i = 0 then K else if i = 1 then F else if i = 2 then a else if i = 3 then b else c)) (-4) := by
  obtain ⟨⟨c0, c5⟩, c1, c2, c3, c4, c6⟩ := q
  have o : ∀ q, ¬ q = 15 → ¬ q = 17 → ¬ q = 18 → ¬ q = 19 → zv (zv (zv (zv h 17 (p 6) a) 18 (p 6) b) 19 (p 6) c) 15 0 (p 6 + 1) q = h q := fun q h0 h5 h6 h7 => by
    rw [zv_other h0, zv_other h7, zv_other h6, zv_other h5]
  have fw : fW k h (zv (zv (zv (zv h 17 (p 6) a) 18 (p 6) b) 19 (p 6) c) 15 0 (p 6 + 1)) := fW_fix fun q hq => o q (by omega) (by omega) (by omega) (by omega)
  have w2 : zv (zv (zv (zv h 17 (p 6) a) 18 (p 6) b) 19 (p 6) c) 15 0 (p 6 + 1) 17 = zv h 17 (p 6) a 17 := by rw [zv_other (by omega), zv_other (by omega), zv_other (by omega)]
  have w3 : zv (zv (zv (zv h 17 (p 6) a) 18 (p 6) b) 19 (p 6) c) 15 0 (p 6 + 1) 18 = zv (zv h 17 (p 6) a) 18 (p 6) b 18 := by rw [zv_other (by omega), zv_other (by omega)]
  have w4 : zv (zv (zv (zv h 17 (p 6) a) 18 (p 6) b) 19 (p 6) c) 15 0 (p 6 + 1) 19 = zv (zv (zv h 17 (p 6) a) 18 (p 6) b) 19 (p 6) c 19 := by rw [zv_other (by omega)]
  have lo : ∀ j, ¬ j = 6 → j < 19 → pPn p (fun i : Int => if i = 0 then K else if i = 1 then F else if i = 2 then a else if i = 3 then b else c) j = p j := fun j h1 h2 => by
    unfold pPn
    rw [if_neg h1, if_neg (by omega)]
  rw [cnP_4] at c0 c1
  unfold cR
  rw [cnP_4]
  have p6 : pPn p (fun i : Int => if i = 0 then K else if i = 1 then F else if i = 2 then a else if i = 3 then b else c) 6 = p 6 + 1 := if_pos rfl
  rw [p6]
  refine ⟨⟨?_, ?_⟩, fun t t0 t1 => ?_, fun t t0 t1 => ?_, fun y y0 y1 => ?_, fun j j0 j1 => ?_, fun j j0 j1 => ?_⟩
  · rw [zv_is]
  · rw [zv_at (by omega), zv_other (by omega), zv_other (by omega), zv_other (by omega), lo 0 (by omega) (by omega)]; exact c5
  · rw [sg_4, w2, w3, w4]
    have pe : ∀ f : Int, 0 ≤ f → f < 5 → pPn p (fun i : Int => if i = 0 then K else if i = 1 then F else if i = 2 then a else if i = 3 then b else c) (19 + 5 * t + f) = if t = p 6 then (fun i : Int => if i = 0 then K else if i = 1 then F else if i = 2 then a else if i = 3 then b else c) f else p (19 + 5 * t + f) := fun f f0 f1 => by
      unfold pPn
      rw [if_neg (by omega)]
      by_cases e : t = p 6
      · rw [if_pos e, if_pos (by omega), show 19 + 5 * t + f - (19 + 5 * p 6) = f by omega]
      · rw [if_neg e, if_neg (by omega)]
    have pe0 := pe 0 (by omega) (by omega)
    rw [Int.add_zero] at pe0
    unfold pK pF pFr pTo pBa
    rw [pe0, pe 1 (by omega) (by omega), pe 2 (by omega) (by omega), pe 3 (by omega) (by omega), pe 4 (by omega) (by omega)]
    by_cases e : t = p 6
    · rw [if_pos e, if_pos e, if_pos e, if_pos e, if_pos e, e, zv_is, zv_is, zv_is, zv_is]
      exact ⟨v, rfl, wk_fr hv fw, rfl, rfl, rfl⟩
    · obtain ⟨u, u1, u2, u3, u4, u5⟩ := c1 t t0 (by omega)
      rw [sg_4] at u2 u3 u4 u5
      rw [if_neg e, if_neg e, if_neg e, if_neg e, if_neg e, zv_at e, zv_at e, zv_at e, zv_at e, zv_other (by omega), zv_other (by omega), zv_other (by omega)]
      exact ⟨u, u1, wk_fr u2 fw, u3, u4, u5⟩
  · by_cases e : t = p 6
    · rw [e, zv_is]
      exact ⟨v, _, rfl, hv.1, (wk_c hv).1, vn⟩
    · rw [zv_at e]
      exact c2 t t0 t1
  · rw [lo 0 (by omega) (by omega)] at y1
    rw [o _ (by omega) (by omega) (by omega) (by omega), o _ (by omega) (by omega) (by omega) (by omega), o _ (by omega) (by omega) (by omega) (by omega), lo _ (by omega) (by omega), lo _ (by omega) (by omega), lo _ (by omega) (by omega)]
    exact c3 y y0 y1
  · rw [o _ (by omega) (by omega) (by omega) (by omega)]
    exact c4 j j0 j1
  · rw [o _ (by omega) (by omega) (by omega) (by omega), o _ (by omega) (by omega) (by omega) (by omega), lo _ (by omega) (by omega), lo _ (by omega) (by omega)]
    exact c6 j j0 j1
theorem ct_addPerson15 {E : zE} {d : Nat} {k : Nat → Nat × Nat} {h : Nat → Int → Int} {r : Nat → Int → Option Nat} {l : Nat → Nat → Int64} {n : Nat} {p : Int → Int} (hR : cR 15 16 17 18 19 20 21 22 23 24 k h r n p (-4)) {K F a b c : Int} {v : Nat} (p60 : 0 ≤ p 6) (p68 : p 6 ≤ 8) (t4 : p 0 ≤ 4) (hv : wk k h v K F) (vn : v < n) : zCT E d M_X3_addPerson [.ref 15, .ref v, .int (iI (a)), .int (iI (b)), .int (iI (c))] (zJ (k, h, r, l, n)) 0 0 (zVx (.int (iI (if p 6 < 8 then 1 else 0))) (fun s => ∃ g r9, s = zJ (k, g, r9, l, n) ∧ (∀ q : Nat, q < 15 ∨ 24 < q → g q = h q) ∧ (∀ q, ¬ q = 16 → r9 q = r q) ∧ cR 15 16 17 18 19 20 21 22 23 24 k g r9 n (if p 6 < 8 then pPn p (fun i : Int => if i = 0 then K else if i = 1 then F else if i = 2 then a else if i = 3 then b else c) else p) (-4))) := by
  have ok := ok_X3_addPerson
  refine zCT_of pn_X3_addPerson (Nat.le_of_ble_eq_true rfl) ?_
  show zGo _ _ _ _ _ _ 0 ([some (.ref 15), some (.ref v), some (.int (iI (a))), some (.int (iI (b))), some (.int (iI (c)))], [], _, _, _)
  have e6 : h 15 0 = p 6 := (by have := hR.1.1; rw [cnP_4] at this; exact this)
  refine s_ldA0 ok rfl ?_
  refine s_getJ 0 ok rfl rfl rfl rfl ?_
  rw [e6]
  refine s_ci ok rfl ?_
  refine s_c_lt ok rfl ⟨by omega, by omega⟩ ⟨by omega, by omega⟩ (fun c6 => ?_) (fun c6 => ?_)
  · refine s_ldA0 ok rfl ?_
    refine s_getF ok rfl rfl rfl rfl ?_
    refine s_ldA0 ok rfl ?_
    refine s_getJ 0 ok rfl rfl rfl rfl ?_
    rw [e6]
    refine s_ldA1 ok rfl ?_
    refine s_aast ok rfl (by exact rfl) (by exact rfl) (by exact rfl) (by omega) (by omega) hv.1 (wk_c hv).1 ?_
    refine s_ldA0 ok rfl ?_
    refine s_getF ok rfl rfl rfl rfl ?_
    refine s_ldA0 ok rfl ?_
    refine s_getJ 0 ok rfl rfl rfl rfl ?_
    rw [e6]
    refine s_ldI2 ok rfl ?_
    refine s_iast ok rfl (by exact rfl) (by exact rfl) (by omega) (by omega) (fun q => by cases q) ?_
    refine s_ldA0 ok rfl ?_
    refine s_getF ok rfl rfl rfl rfl ?_
    refine s_ldA0 ok rfl ?_
    refine s_getJ 0 ok rfl rfl rfl rfl ?_
    rw [show zv h 17 (p 6) a 15 0 = p 6 from (congrFun (zv_other (by omega)) 0).trans e6]
    refine s_ldI3 ok rfl ?_
    refine s_iast ok rfl (by exact rfl) (by exact rfl) (by omega) (by omega) (fun q => by cases q) ?_
    refine s_ldA0 ok rfl ?_
    refine s_getF ok rfl rfl rfl rfl ?_
    refine s_ldA0 ok rfl ?_
    refine s_getJ 0 ok rfl rfl rfl rfl ?_
    rw [show zv (zv h 17 (p 6) a) 18 (p 6) b 15 0 = p 6 from (congrFun (zv_other (by omega)) 0).trans ((congrFun (zv_other (by omega)) 0).trans e6)]
    refine s_ldI4 ok rfl ?_
    refine s_iast ok rfl (by exact rfl) (by exact rfl) (by omega) (by omega) (fun q => by cases q) ?_
    refine s_ldA0 ok rfl ?_
    refine s_dupA ok rfl ?_
    refine s_getJ 0 ok rfl rfl rfl rfl ?_
    rw [show zv (zv (zv h 17 (p 6) a) 18 (p 6) b) 19 (p 6) c 15 0 = p 6 from (congrFun (zv_other (by omega)) 0).trans ((congrFun (zv_other (by omega)) 0).trans ((congrFun (zv_other (by omega)) 0).trans e6))]
    refine s_ci ok rfl ?_
    refine s_add ok rfl ?_
    refine s_putJ 0 ok rfl rfl rfl rfl (fun q => by cases q) ?_
    refine s_ci ok rfl ?_
    refine s_retZ ok rfl (by first | exact Or.inl rfl | exact Or.inr rfl) ⟨congrArg (fun z => some (Value.int (iI z))) (if_pos c6).symm, _, _, rfl, (fun q hq => by rw [zv_other (by omega), zv_other (by omega), zv_other (by omega), zv_other (by omega)]), (fun q hq => zv_other hq), (by rw [if_pos c6]; exact cR15_person hR p60 c6 t4 hv vn)⟩
  · refine s_ci ok rfl ?_
    refine s_retZ ok rfl (by first | exact Or.inl rfl | exact Or.inr rfl) ⟨congrArg (fun z => some (Value.int (iI z))) (if_neg (by omega)).symm, h, r, rfl, ⟨fun _ _ => rfl, fun _ _ => rfl, (by rw [if_neg (by omega)]; exact hR)⟩⟩
theorem ct_addTrain15 {E : zE} {d : Nat} {k : Nat → Nat × Nat} {h : Nat → Int → Int} {r : Nat → Int → Option Nat} {l : Nat → Nat → Int64} {n : Nat} {p : Int → Int} {w : Int} (hR : cR 15 16 17 18 19 20 21 22 23 24 k h r n p w) {a b : Int} (p0 : 0 ≤ p 0) (t4 : p 0 ≤ 4) (m0 : 0 ≤ p 1) (m1 : p 1 < z2 (p 0)) : zCT E d M_X3_addTrain [.ref 15, .int (iI (a)), .int (iI (b))] (zJ (k, h, r, l, n)) 0 0 (zVx (.int (iI (if p 0 < 4 then 1 else 0))) (fun s => ∃ g, s = zJ (k, g, r, l, n) ∧ (∀ q : Nat, q < 15 ∨ 24 < q → g q = h q) ∧ cR 15 16 17 18 19 20 21 22 23 24 k g r n (if p 0 < 4 then zp (zp (zp p (11 + 2 * p 0) a) (11 + 2 * p 0 + 1) b) 0 (p 0 + 1) else p) w)) := by
  have ok := ok_X3_addTrain
  refine zCT_of pn_X3_addTrain (Nat.le_of_ble_eq_true rfl) ?_
  show zGo _ _ _ _ _ _ 0 ([some (.ref 15), some (.int (iI (a))), some (.int (iI (b)))], [], _, _, _)
  have e5 := hR.1.2
  refine s_ldA0 ok rfl ?_
  refine s_getJ 5 ok rfl rfl rfl rfl ?_
  rw [e5]
  refine s_ci ok rfl ?_
  refine s_c_lt ok rfl ⟨by omega, by omega⟩ ⟨by omega, by omega⟩ (fun c5 => ?_) (fun c5 => ?_)
  · refine s_ldA0 ok rfl ?_
    refine s_getF ok rfl rfl rfl rfl ?_
    refine s_ldA0 ok rfl ?_
    refine s_getJ 5 ok rfl rfl rfl rfl ?_
    rw [e5]
    refine s_ldI1 ok rfl ?_
    refine s_iast ok rfl (by exact rfl) (by exact rfl) (by omega) (by omega) (fun q => by cases q) ?_
    refine s_ldA0 ok rfl ?_
    refine s_getF ok rfl rfl rfl rfl ?_
    refine s_ldA0 ok rfl ?_
    refine s_getJ 5 ok rfl rfl rfl rfl ?_
    rw [show zv h 20 (p 0) a 15 5 = p 0 from (congrFun (zv_other (by omega)) 5).trans e5]
    refine s_ldI2 ok rfl ?_
    refine s_iast ok rfl (by exact rfl) (by exact rfl) (by omega) (by omega) (fun q => by cases q) ?_
    refine s_ldA0 ok rfl ?_
    refine s_getF ok rfl rfl rfl rfl ?_
    refine s_ldA0 ok rfl ?_
    refine s_getJ 5 ok rfl rfl rfl rfl ?_
    rw [show zv (zv h 20 (p 0) a) 21 (p 0) b 15 5 = p 0 from (congrFun (zv_other (by omega)) 5).trans ((congrFun (zv_other (by omega)) 5).trans e5)]
    refine s_ci ok rfl ?_
    refine s_iast ok rfl (by exact rfl) (by exact rfl) (by omega) (by omega) (fun _ => by first | exact Or.inl rfl | exact Or.inr rfl) ?_
    refine s_ldA0 ok rfl ?_
    refine s_dupA ok rfl ?_
    refine s_getJ 5 ok rfl rfl rfl rfl ?_
    rw [show zv (zv (zv h 20 (p 0) a) 21 (p 0) b) 22 (p 0) 0 15 5 = p 0 from (congrFun (zv_other (by omega)) 5).trans ((congrFun (zv_other (by omega)) 5).trans ((congrFun (zv_other (by omega)) 5).trans e5))]
    refine s_ci ok rfl ?_
    refine s_add ok rfl ?_
    refine s_putJ 5 ok rfl rfl rfl rfl (fun q => by cases q) ?_
    refine s_ci ok rfl ?_
    refine s_retZ ok rfl (by first | exact Or.inl rfl | exact Or.inr rfl) ⟨congrArg (fun z => some (Value.int (iI z))) (if_pos c5).symm, _, rfl, (fun q hq => by rw [zv_other (by omega), zv_other (by omega), zv_other (by omega), zv_other (by omega)]), (by rw [if_pos c5]; exact cR15_train hR p0 c5 m0 m1)⟩
  · refine s_ci ok rfl ?_
    refine s_retZ ok rfl (by first | exact Or.inl rfl | exact Or.inr rfl) ⟨congrArg (fun z => some (Value.int (iI z))) (if_neg (by omega)).symm, h, rfl, (fun _ _ => rfl), (by rw [if_neg (by omega)]; exact hR)⟩
theorem ct_turn15 {E : zE} {d : Nat} {k : Nat → Nat × Nat} {h : Nat → Int → Int} {r : Nat → Int → Option Nat} {l : Nat → Nat → Int64} {n : Nat} {p : Int → Int} {w : Int} (hR : cR 15 16 17 18 19 20 21 22 23 24 k h r n p w) {t : Int} (t0 : 0 ≤ t) (t1 : t < p 0) (t4 : p 0 ≤ 4) (m0 : 0 ≤ p 1) (m1 : p 1 < 16) : zCT E (d + 1) M_X3_turnCancelled [.ref 15, .int (iI (t))] (zJ (k, h, r, l, n)) 0 0 (zUx (fun s => ∃ g, s = zJ (k, g, r, l, n) ∧ g = zv h 22 t (1 - h 22 t) ∧ cR 15 16 17 18 19 20 21 22 23 24 k g r n (zp p 1 (zxb (p 1) t)) w)) := by
  have ok := ok_X3_turnCancelled
  refine zCT_of pn_X3_turnCancelled (Nat.le_of_ble_eq_true rfl) ?_
  show zGo _ _ _ _ _ _ 0 ([some (.ref 15), some (.int (iI (t)))], [], _, _, _)
  have h01 := hR.2.2.2.2.1 t t0 (by omega)
  refine s_ldA0 ok rfl ?_
  refine s_ldI1 ok rfl ?_
  refine s_callV ok rfl rfl rfl rfl rfl rfl (ct_pisTrain15 hR.1.2 (by omega) t4 ⟨by omega, by omega⟩) ?_
  refine s_if_eq ok rfl zif01 (fun c5 => ?_) (fun c5 => ?_)
  · refine s_retV ok rfl (by first | exact absurd (And.intro t0 t1) (zif_f c5) | exact ⟨rfl, _, rfl, (by congr 1; omega), (by have z := cR15_canc hR t0 t1 t4 m0 m1; rw [show (1 - h 22 t) = _ from (by omega : 1 - h 22 t = 1)] at z; exact z)⟩ | exact ⟨rfl, _, rfl, (by congr 1; omega), (by have z := cR15_canc hR t0 t1 t4 m0 m1; rw [show (1 - h 22 t) = _ from (by omega : 1 - h 22 t = 0)] at z; exact z)⟩)
  · refine s_ldA0 ok rfl ?_
    refine s_getF ok rfl rfl rfl rfl ?_
    refine s_ldI1 ok rfl ?_
    refine s_ldA0 ok rfl ?_
    refine s_getF ok rfl rfl rfl rfl ?_
    refine s_ldI1 ok rfl ?_
    refine s_iald ok rfl (by exact rfl) (by exact rfl) (by omega) (by omega) ?_
    refine s_if_eq ok rfl (by rcases h01 with e | e <;> rw [e] <;> exact ⟨by omega, by omega⟩) (fun c19 => ?_) (fun c19 => ?_)
    · refine s_ci ok rfl ?_
      refine s_goto ok rfl ?_
      refine s_iast ok rfl (by exact rfl) (by exact rfl) (by omega) (by omega) (fun _ => by first | exact Or.inl rfl | exact Or.inr rfl) ?_
      refine s_retV ok rfl (by first | exact absurd (And.intro t0 t1) (zif_f c5) | exact ⟨rfl, _, rfl, (by congr 1; omega), (by have z := cR15_canc hR t0 t1 t4 m0 m1; rw [show (1 - h 22 t) = _ from (by omega : 1 - h 22 t = 1)] at z; exact z)⟩ | exact ⟨rfl, _, rfl, (by congr 1; omega), (by have z := cR15_canc hR t0 t1 t4 m0 m1; rw [show (1 - h 22 t) = _ from (by omega : 1 - h 22 t = 0)] at z; exact z)⟩)
    · refine s_ci ok rfl ?_
      refine s_iast ok rfl (by exact rfl) (by exact rfl) (by omega) (by omega) (fun _ => by first | exact Or.inl rfl | exact Or.inr rfl) ?_
      refine s_retV ok rfl (by first | exact absurd (And.intro t0 t1) (zif_f c5) | exact ⟨rfl, _, rfl, (by congr 1; omega), (by have z := cR15_canc hR t0 t1 t4 m0 m1; rw [show (1 - h 22 t) = _ from (by omega : 1 - h 22 t = 1)] at z; exact z)⟩ | exact ⟨rfl, _, rfl, (by congr 1; omega), (by have z := cR15_canc hR t0 t1 t4 m0 m1; rw [show (1 - h 22 t) = _ from (by omega : 1 - h 22 t = 0)] at z; exact z)⟩)
