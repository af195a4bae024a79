/-! the law: questions that change the plan -/
theorem zv_of {α : Type} {f : Nat → Int → α} {n : Nat} {j : Int} {v : α} {a : Nat} (h : ¬ a = n) : zv f n j v a = f a := by
  funext b
  rw [zv_eq, if_neg (fun q => h q.1)]
theorem zv_60 {g : Nat → Int → Int} {p : Int → Int} {i v j : Int} (e : g 60 = p) : zv g 60 i v 60 j = zp p i v j := by
  rw [zv_eq, e]
  unfold zp
  by_cases q : j = i
  · rw [if_pos ⟨rfl, q⟩, if_pos q]
  · rw [if_neg (fun z => q z.2), if_neg q]
theorem pS_ext {p q : Int → Int} (e : ∀ j, 0 ≤ j → j < 59 → q j = p j) (hp : pS p) : pS q := by
  obtain ⟨⟨a0, a1, b2, b3, b4, b5, b6, b7, b8, b9, c0, c1, c2, c3, d1, d2, d3⟩, k2, k3, k4, k5⟩ := hp
  refine ⟨⟨?_, ?_, ?_, ?_, ?_, ?_, ?_, ?_, ?_, ?_, ?_, ?_, ?_, ?_, fun j j0 j1 => ?_, fun j j0 j1 => ?_, fun s s0 s1 => ?_⟩, fun t t0 t1 => ?_, fun j j0 j1 => ?_, fun t t0 t1 => ?_, ?_⟩
  iterate 14 (rw [e _ (by omega) (by omega)]; assumption)
  · rw [e _ (by omega) (by omega)]
    exact d1 j j0 j1
  · rw [e _ (by omega) (by omega), e _ (by omega) (by omega)]
    exact d2 j j0 j1
  · have := d3 s s0 s1
    unfold pK pF pFr pTo pBa at *
    rw [e _ (by omega) (by omega), e _ (by omega) (by omega), e _ (by omega) (by omega), e _ (by omega) (by omega), e _ (by omega) (by omega)]
    exact this
  · have := k2 t t0 t1
    unfold pBa at *
    rw [e _ (by omega) (by omega)]
    exact this
  · rw [e _ (by omega) (by omega)]
    exact k3 j j0 j1
  · rw [e 6 (by omega) (by omega)] at t1
    have := k4 t t0 t1
    unfold pFr pTo at *
    rw [e _ (by omega) (by omega), e _ (by omega) (by omega)]
    exact this
  · rw [e 0 (by omega) (by omega), e 1 (by omega) (by omega)]
    exact k5
theorem cR_ext {P a1 a2 a3 a4 a5 a6 a7 a8 a9 : Nat} {k : Nat → Nat × Nat} {h : Nat → Int → Int} {r : Nat → Int → Option Nat} {n : Nat} {p q : Int → Int} (c : cR P a1 a2 a3 a4 a5 a6 a7 a8 a9 k h r n p (-4)) (hp : pS p) (e : ∀ j, 0 ≤ j → j < 59 → q j = p j) : cR P a1 a2 a3 a4 a5 a6 a7 a8 a9 k h r n q (-4) := by
  obtain ⟨⟨c0, c5⟩, c1, c2, c3, c4, c6⟩ := c
  have x0 := hp.1.1
  have x1 := hp.1.2.1
  have x6 := hp.1.2.2.2.2.2.2.2.2.2.2.2.2.1
  have x8 := hp.1.2.2.2.2.2.2.2.2.2.2.2.2.2.1
  unfold cR
  rw [cnP_4] at c0 c1 ⊢
  rw [e 6 (by omega) (by omega), e 0 (by omega) (by omega), e 1 (by omega) (by omega)]
  refine ⟨⟨c0, c5⟩, fun t t0 t1 => ?_, c2, fun x y0 y1 => ?_, c4, fun j j0 j1 => ?_⟩
  · obtain ⟨u, u1, u2, u3, u4, u5⟩ := c1 t t0 t1
    rw [sg_4] at *
    unfold pK pF pFr pTo pBa at *
    rw [e (19 + 5 * t) (by omega) (by omega), e (19 + 5 * t + 1) (by omega) (by omega), e (19 + 5 * t + 2) (by omega) (by omega), e (19 + 5 * t + 3) (by omega) (by omega), e (19 + 5 * t + 4) (by omega) (by omega)]
    exact ⟨u, u1, u2, u3, u4, u5⟩
  · rw [e _ (by omega) (by omega), e _ (by omega) (by omega)]
    exact c3 x y0 y1
  · rw [e _ (by omega) (by omega), e _ (by omega) (by omega)]
    exact c6 j j0 j1
/-- beyond the trains a plan may hold what it will -/
theorem cR_off {P a1 a2 a3 a4 a5 a6 a7 a8 a9 : Nat} {k : Nat → Nat × Nat} {h : Nat → Int → Int} {r : Nat → Int → Option Nat} {n : Nat} {p : Int → Int} {i v : Int} (c : cR P a1 a2 a3 a4 a5 a6 a7 a8 a9 k h r n p (-4)) (p0 : 0 ≤ p 0) (hi : 11 + 2 * p 0 ≤ i) (h19 : i < 19) : cR P a1 a2 a3 a4 a5 a6 a7 a8 a9 k h r n (zp p i v) (-4) := by
  obtain ⟨⟨c0, c5⟩, c1, c2, c3, c4, c6⟩ := c
  have e : ∀ j, ¬ j = i → zp p i v j = p j := fun j hj => zp_ne hj
  unfold cR
  rw [cnP_4] at c0 c1 ⊢
  rw [e 6 (by omega), e 0 (by omega), e 1 (by omega)]
  refine ⟨⟨c0, c5⟩, fun t t0 t1 => ?_, c2, fun x y0 y1 => ?_, c4, fun j j0 j1 => ?_⟩
  · obtain ⟨u, u1, u2, u3, u4, u5⟩ := c1 t t0 t1
    rw [sg_4] at *
    unfold pK pF pFr pTo pBa at *
    rw [e (19 + 5 * t) (by omega), e (19 + 5 * t + 1) (by omega), e (19 + 5 * t + 2) (by omega), e (19 + 5 * t + 3) (by omega), e (19 + 5 * t + 4) (by omega)]
    exact ⟨u, u1, u2, u3, u4, u5⟩
  · rw [e _ (by omega), e _ (by omega)]
    exact c3 x y0 y1
  · rw [e _ (by omega), e _ (by omega)]
    exact c6 j j0 j1
theorem pS_base {p : Int → Int} (hp : pS p) {t v : Int} (t0 : 0 ≤ t) (v0 : 0 ≤ v) (v1 : v ≤ 300) : pS (zp p (19 + 5 * t + 4) v) := by
  have e : ∀ i, ¬ i = 19 + 5 * t + 4 → zp p (19 + 5 * t + 4) v i = p i := fun i hi => zp_ne hi
  refine ⟨pOK_base hp.1 t0 v0 (by omega), fun s s0 s1 => ?_, fun j j0 j1 => ?_, fun s s0 s1 => ?_, ?_⟩
  · unfold pBa
    by_cases z : s = t
    · rw [z, zp_at]; exact v1
    · rw [e _ (by omega)]; exact hp.2.1 s s0 s1
  · rw [e _ (by omega)]; exact hp.2.2.1 j j0 j1
  · rw [e 6 (by omega)] at s1
    have := hp.2.2.2.1 s s0 s1
    unfold pFr pTo at *
    rw [e _ (by omega), e _ (by omega)]
    exact this
  · rw [e 0 (by omega), e 1 (by omega)]; exact hp.2.2.2.2
theorem pS_leave {p : Int → Int} (hp : pS p) {t : Int} (t0 : 0 ≤ t) (t1 : t < p 6) : pS (sLv p t (5 * (p 6 - 1))) := by
  obtain ⟨⟨a0, a1, b2, b3, b4, b5, b6, b7, b8, b9, c0, c1, c2, c3, d1, d2, d3⟩, k2, k3, k4, k5⟩ := hp
  have e : ∀ i, ¬ i = 6 → i < 19 → sLv p t (5 * (p 6 - 1)) i = p i := fun i hi h => by
    unfold sLv
    rw [if_neg hi, if_neg (by omega)]
  have e6 : sLv p t (5 * (p 6 - 1)) 6 = p 6 - 1 := if_pos rfl
  have en : ∀ (s : Int) (f : Int), 0 ≤ s → 0 ≤ f → f < 5 → sLv p t (5 * (p 6 - 1)) (19 + 5 * s + f) = p (19 + 5 * (if t ≤ s ∧ s < p 6 - 1 then s + 1 else s) + f) := fun s f s0 f0 f1 => by
    unfold sLv
    rw [if_neg (by omega)]
    by_cases q : t ≤ s ∧ s < p 6 - 1
    · rw [if_pos (by omega), if_pos q]
      congr 1
      omega
    · rw [if_neg (by omega), if_neg q]
  have en0 : ∀ s : Int, 0 ≤ s → sLv p t (5 * (p 6 - 1)) (19 + 5 * s) = p (19 + 5 * (if t ≤ s ∧ s < p 6 - 1 then s + 1 else s)) := fun s s0 => by
    have := en s 0 s0 (by omega) (by omega)
    rw [Int.add_zero, Int.add_zero] at this
    exact this
  have up : ∀ s : Int, 0 ≤ s → s < 8 → 0 ≤ (if t ≤ s ∧ s < p 6 - 1 then s + 1 else s) ∧ (if t ≤ s ∧ s < p 6 - 1 then s + 1 else s) < 8 := fun s s0 s1 => by split <;> omega
  refine ⟨⟨?_, ?_, ?_, ?_, ?_, ?_, ?_, ?_, ?_, ?_, ?_, ?_, by rw [e6]; omega, by rw [e6]; omega, fun j j0 j1 => ?_, fun j j0 j1 => ?_, fun s s0 s1 => ?_⟩, fun t t0 t1 => ?_, fun j j0 j1 => ?_, fun t t0 t1 => ?_, ?_⟩
  iterate 12 (rw [e _ (by omega) (by omega)]; assumption)
  · rw [e _ (by omega) (by omega)]
    exact d1 j j0 j1
  · rw [e _ (by omega) (by omega), e _ (by omega) (by omega)]
    exact d2 j j0 j1
  · have := d3 _ (up s s0 s1).1 (up s s0 s1).2
    unfold pK pF pFr pTo pBa at *
    rw [en0 s s0, en s 1 s0 (by omega) (by omega), en s 2 s0 (by omega) (by omega), en s 3 s0 (by omega) (by omega), en s 4 s0 (by omega) (by omega)]
    exact this
  · have := k2 _ (up t t0 t1).1 (up t t0 t1).2
    unfold pBa at *
    rw [en t 4 t0 (by omega) (by omega)]
    exact this
  · rw [e _ (by omega) (by omega)]
    exact k3 j j0 j1
  · rw [e6] at t1
    have u := up t t0 (by omega)
    have := k4 _ u.1 (by split <;> omega)
    unfold pFr pTo at *
    rw [en t 2 t0 (by omega) (by omega), en t 3 t0 (by omega) (by omega)]
    exact this
  · rw [e 0 (by omega) (by omega), e 1 (by omega) (by omega)]
    exact k5
/-- a question that changes the plan -/
theorem lp_chg {α : Type} {mk : α → Value} {E : zE} {L : Nat} {M9 M8 : zM} {as : List Value} {k : Nat → Nat × Nat} {h : Nat → Int → Int} {r : Nat → Int → Option Nat} {l : Nat → Nat → Int64} {n : Nat} (I : LI L k h r n) (x : α) (p' : Int → Int) {mc ms : Nat} (b : mc ≤ 34 ∧ ms ≤ 102)
    (c : zCT E 10 M9 (.ref 3 :: as) (zJ (k, h, r, l, n)) mc ms (zVx (mk x) (fun s => ∃ k2 g r2 l2 n2, s = zJ (k2, g, r2, l2, n2) ∧ n ≤ n2 ∧ (∀ q, q < n → k2 q = k q ∧ ((q < 4 ∨ q = 14 ∨ 24 < q) → g q = h q) ∧ (¬ q = 5 → ¬ q = 16 → r2 q = r q)) ∧ cR 4 5 6 7 8 9 10 11 12 13 k2 g r2 n2 p' (-4))))
    (q : ∀ (k2 : Nat → Nat × Nat) (g : Nat → Int → Int) (r2 : Nat → Int → Option Nat) (l2 : Nat → Nat → Int64) (n2 : Nat), (∀ q, 24 < q → q < 87 → g q = h q) → zCT E 10 M8 (.ref 59 :: as) (zJ (k2, g, r2, l2, n2)) 0 0 (zVx (mk x) (fun s => ∃ g2, s = zJ (k2, g2, r2, l2, n2) ∧ (∀ q, ¬ q = 59 → ¬ q = 60 → ¬ q = 62 → ¬ q = 76 → g2 q = g q) ∧ (g2 59 3 = g 59 3 ∧ g2 59 17 = g 59 17 ∧ g2 59 18 = g 59 18) ∧ pS p' ∧ ∀ j, 0 ≤ j → j < 59 → g2 60 j = p' j))) : zLP mk E L M9 M8 as k h r l n := by
  have hn := I.1
  refine ⟨x, mc, ms, b, zct_w9 c fun _ s z => ?_⟩
  obtain ⟨z1, k2, g, r2, l2, n2, rfl, z2, z3, z4⟩ := z
  have e : ∀ q, 24 < q → q < 87 → g q = h q := fun q a b => (z3 q (by omega)).2.1 (by omega)
  have e0 : g 0 = h 0 := (z3 0 (by omega)).2.1 (by omega)
  have k0 : k2 0 = (21, L) := (z3 0 (by omega)).1.trans I.2.1.1
  refine ⟨z1, k2, g, r2, l2, n2, rfl, ⟨k0, e0⟩, zct_w9 (q k2 g r2 l2 n2 e) fun _ s y => ?_⟩
  obtain ⟨y1, g2, rfl, y2, y3, y4, y5⟩ := y
  refine ⟨y1, k2, g2, r2, l2, n2, rfl, ⟨k0, (y2 0 (by omega) (by omega) (by omega) (by omega)).trans e0⟩, ?_⟩
  refine LI_p I z2 (fun q hq => ⟨(z3 q hq).1, fun z => (y2 q (by omega) (by omega) (by omega) (by omega)).trans ((z3 q hq).2.1 (by omega)), (z3 q hq).2.2⟩) ?_ (pS_ext y5 y4) (cR_ext (cR_gen z4 (cn8 y4) (y2 4 (by omega) (by omega) (by omega) (by omega)) (y2 6 (by omega) (by omega) (by omega) (by omega)) (y2 7 (by omega) (by omega) (by omega) (by omega)) (y2 8 (by omega) (by omega) (by omega) (by omega)) (y2 9 (by omega) (by omega) (by omega) (by omega)) (y2 10 (by omega) (by omega) (by omega) (by omega)) (y2 11 (by omega) (by omega) (by omega) (by omega)) (y2 12 (by omega) (by omega) (by omega) (by omega)) (y2 13 (by omega) (by omega) (by omega) (by omega)) rfl (fun _ _ => rfl) (fun v hv z9 => y2 v (by omega) (by omega) (by omega) (by omega)) (Nat.le_refl _)) y4 y5)
  rw [y3.1, y3.2.1, y3.2.2, e 59 (by omega) (by omega)]
  exact ⟨rfl, rfl, rfl⟩
