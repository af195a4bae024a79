/-! the trip: it goes -/
theorem tC_fr {p : Int → Int} {w : Int} {g h : Nat → Int → Int} (c : tC p w h) (e37 : g 37 6 = h 37 6) (f : ∀ q : Nat, 37 < q → q < 44 → g q = h q) : tC p w g := by
  unfold tC at c ⊢
  rw [e37, f 38 (by omega) (by omega), f 39 (by omega) (by omega), f 40 (by omega) (by omega), f 41 (by omega) (by omega), f 42 (by omega) (by omega), f 43 (by omega) (by omega)]
  exact c
/-- the queue holds the trains that go -/
def qM (p : Int → Int) (dd : Int) (g : Nat → Int → Int) : Prop := ∀ y, (y ∈ rl (g 54) (rN p dd).toNat) ↔ (0 ≤ y ∧ y < 3 * p 0 ∧ y % 3 < dd)
/-- all trains stand at the stop a -/
def sA (p : Int → Int) (dd : Int) (a : Int) (H : Nat → Int → Int) : Prop := ∀ y : Int, 0 ≤ y → y < 3 * p 0 → (y % 3 < dd → H 63 y = a) ∧ (¬ y % 3 < dd → H 63 y = 5)
/-- the first c of the queue are done at a -/
def jI (p : Int → Int) (w dd a : Int) (h H : Nat → Int → Int) (c : Nat) (g : Nat → Int → Int) : Prop := ∃ Hi : Nat → Int → Int, (∀ q : Nat, q < 44 ∨ 53 < q → g q = h q) ∧ dZ Hi ∧ Hi 60 = p ∧ Hi 59 17 = w ∧ tT p w dd g Hi ∧ sRS a 12 H = sRS a (12 - c) Hi ∧ (∀ j : Int, 0 ≤ j → j < c → Hi 63 (h 54 j) = a + 1) ∧ (∀ j : Int, (c : Int) ≤ j → j < rN p dd → Hi 63 (h 54 j) = a ∧ Hi 64 (h 54 j) = H 64 (h 54 j)) ∧ (∀ y : Int, 0 ≤ y → y < 3 * p 0 → ¬ y % 3 < dd → Hi 63 y = 5)
theorem jI_end {p : Int → Int} {w dd a : Int} {h H g : Nat → Int → Int} (a4 : a ≤ 4) (qm : qM p dd h) (r0 : 0 ≤ rN p dd) (j : jI p w dd a h H (rN p dd).toNat g) : (∀ q : Nat, q < 44 ∨ 53 < q → g q = h q) ∧ tT p w dd g (sRS a 12 H) ∧ sA p dd (a + 1) (sRS a 12 H) := by
  obtain ⟨Hi, j1, j2, j3, j4, j5, j6, j7, j8, j9⟩ := j
  have all : ∀ y : Int, 0 ≤ y → y < 3 * p 0 → y % 3 < dd → Hi 63 y = a + 1 := fun y y0 y1 y2 => by
    obtain ⟨j, k0, k1, rfl⟩ := rl_mem _ ((qm y).mpr ⟨y0, y1, y2⟩)
    exact j7 j k0 k1
  have e : sRS a 12 H = Hi := by
    rw [j6]
    refine sRS_end (fun y y0 y1 => ?_) _
    have n := (nT_is j2).1
    rw [j3] at n
    by_cases z : y % 3 < dd
    · rw [all y y0 (by omega) z]; omega
    · rw [j9 y y0 (by omega) z]; omega
  rw [e]
  exact ⟨j1, j5, fun y y0 y1 => ⟨all y y0 y1, j9 y y0 y1⟩⟩
theorem jI_next {p : Int → Int} {w dd a : Int} {h H g0 : Nat → Int → Int} {c : Nat} (a0 : 0 ≤ a) (a4 : a ≤ 4) (qm : qM p dd h) (r12 : rN p dd ≤ 12) (hH : ∀ j : Int, 0 ≤ j → j < rN p dd → h 49 (5 * h 54 j + a) = H 64 (h 54 j)) (sq : sQ h a (rl (h 54) (rN p dd).toNat)) (hc : (c : Int) < rN p dd) (Hi : Nat → Int → Int) (j2 : dZ Hi) (j3 : Hi 60 = p) (j4 : Hi 59 17 = w) (j6 : sRS a 12 H = sRS a (12 - c) Hi) (j7 : ∀ j : Int, 0 ≤ j → j < c → Hi 63 (h 54 j) = a + 1) (j8 : ∀ j : Int, (c : Int) ≤ j → j < rN p dd → Hi 63 (h 54 j) = a ∧ Hi 64 (h 54 j) = H 64 (h 54 j)) (j9 : ∀ y : Int, 0 ≤ y → y < 3 * p 0 → ¬ y % 3 < dd → Hi 63 y = 5) (fr : ∀ q : Nat, q < 44 ∨ 53 < q → g0 q = h q) (tt : tT p w dd g0 (sStop (h 54 c) Hi)) : jI p w dd a h H (c + 1) g0 := by
  have lt : ∀ x y : Int, 0 ≤ x → x < y → y < rN p dd → qA h a (h 54 x) (h 54 y) := fun x y x0 xy y1 => by
    have := sQ_rl _ sq x.toNat y.toNat (by omega) (by omega)
    rw [Int.toNat_of_nonneg x0, Int.toNat_of_nonneg (by omega)] at this
    exact this
  obtain ⟨x0, x1, x2⟩ := (qm (h 54 c)).mp (rl_of (by omega) (by omega))
  obtain ⟨x63, x64⟩ := j8 c (by omega) hc
  obtain ⟨-, t, z⟩ := dZ_stop j2 (x := h 54 c) x0 (by rw [j3]; exact x1) (by omega)
  have n := (nT_is j2).1
  rw [j3] at n
  have ne : ∀ j : Int, 0 ≤ j → j < rN p dd → ¬ j = c → ¬ h 54 j = h 54 c := fun j k0 k1 k2 e => by
    rcases Int.lt_trichotomy j c with q | q | q
    · have := lt j c k0 q hc
      rw [e] at this
      unfold qA at this
      omega
    · exact k2 q
    · have := lt c j (by omega) q k1
      rw [e] at this
      unfold qA at this
      omega
  have is : sNa a Hi (nT Hi) = h 54 c := by
    refine sNa_is x0 (by omega) x63 fun y y0 y1 ya => ?_
    by_cases yd : y % 3 < dd
    · obtain ⟨j, k0, k1, rfl⟩ := rl_mem _ ((qm y).mpr ⟨y0, by omega, yd⟩)
      rcases Int.lt_trichotomy j c with q | q | q
      · have := j7 j k0 q
        omega
      · subst q
        exact Or.inr ⟨rfl, Int.le_refl _⟩
      · have := lt c j (by omega) q (by omega)
        unfold qA at this
        rw [hH c (by omega) hc, hH j k0 (by omega)] at this
        unfold lx
        rw [x64, (j8 j (by omega) (by omega)).2]
        omega
    · have := j9 y y0 (by omega) yd
      omega
  refine ⟨sStop (h 54 c) Hi, fr, z, (t.1 60 (by omega) (by omega)).trans j3, (t.2.1 17 (by omega)).trans j4, tt, ?_, fun j k0 k1 => ?_, fun j k0 k1 => ?_, fun y y0 y1 y2 => ?_⟩
  · rw [j6, show 12 - c = (12 - (c + 1)) + 1 by omega, sRS_one is x0]
  · by_cases e : j = c
    · subst e
      rw [t.2.2.2.1, x63]
    · rw [t.2.2.1 63 _ (by omega) (by omega) (ne j k0 (by omega) e)]
      exact j7 j k0 (by omega)
  · rw [t.2.2.1 63 _ (by omega) (by omega) (ne j (by omega) k1 (by omega)), t.2.2.1 64 _ (by omega) (by omega) (ne j (by omega) k1 (by omega))]
    exact j8 j (by omega) k1
  · rw [t.2.2.1 63 _ (by omega) (by omega) (fun e => by rw [e] at y2; exact y2 x2)]
    exact j9 y y0 y1 y2
theorem lp_go_in4 {E : zE} {d : Nat} {k : Nat → Nat × Nat} {h : Nat → Int → Int} {r : Nat → Int → Option Nat} {l : Nat → Nat → Int64} {n : Nat} {Q : zQ} {p : Int → Int} {w dd : Int} (hp : pOK p) (hdd : dd = 1 ∨ dd = 3) {a : Int} {H : Nat → Int → Int} (a0 : 0 ≤ a) (a4 : a ≤ 4) (hC : tC p w h) (hR : cR 4 5 6 7 8 9 10 11 12 13 k h r n p w) (h37 : h 37 18 = rN p dd) (qm : qM p dd h) (hH : ∀ j : Int, 0 ≤ j → j < rN p dd → h 49 (5 * h 54 j + a) = H 64 (h 54 j)) (sq : sQ h a (rl (h 54) (rN p dd).toNat)) (hf : a = 4 → ∀ q : Int, 0 ≤ q → q < p 6 → ¬ pFr p q = 4) (hX : ∀ g u, znl u = true → (∀ q : Nat, q < 44 ∨ 53 < q → g q = h q) ∧ tT p w dd g (sRS a 12 H) ∧ sA p dd (a + 1) (sRS a 12 H) → zGo E (d + 8) M_X9_go 0 0 Q 54 ([some (.ref 37), some (.ref 4), some (.int (iI (dd - 1))), some (.int (iI (a))), u], [], zJ (k, g, r, l, n), 0, 0)) : ∀ c : Nat, ∀ (m : Nat) (g : Nat → Int → Int), jI p w dd a h H m g → rN p dd < m + c → m ≤ rN p dd → zGo E (d + 8) M_X9_go 0 0 Q 26 ([some (.ref 37), some (.ref 4), some (.int (iI (dd - 1))), some (.int (iI (a))), some (.int (iI ((m : Int))))], [], zJ (k, g, r, l, n), 0, 0) := by
  have ok := ok_X9_go
  intro c
  induction c with
  | zero =>
    intros
    omega
  | succ c ih =>
    intro m g hj g1 g2
    have hj2 := hj
    obtain ⟨Hi, j1, j2, j3, j4, j5, j6, j7, j8, j9⟩ := hj
    have p0 := hp.1
    have p4 := hp.2.1
    have rb : 0 ≤ rN p dd ∧ rN p dd ≤ 12 := by unfold rN; split <;> omega
    refine s_ldI4 ok rfl ?_
    refine s_ldA0 ok rfl ?_
    refine s_getJ 18 ok rfl rfl rfl rfl ?_
    rw [show g 37 18 = rN p dd from (congrFun (j1 37 (by omega)) 18).trans h37]
    refine s_c_ge ok rfl ⟨by omega, by omega⟩ ⟨by omega, by omega⟩ (fun c32 => ?_) (fun c32 => ?_)
    · have em : m = (rN p dd).toNat := by omega
      rw [em] at hj2
      exact hX g _ rfl (jI_end a4 qm rb.1 hj2)
    · refine s_ldA0 ok rfl ?_
      refine s_ldA1 ok rfl ?_
      refine s_ldA0 ok rfl ?_
      refine s_getF ok rfl rfl rfl rfl ?_
      refine s_ldI4 ok rfl ?_
      refine s_iald ok rfl (by exact rfl) (by exact rfl) (by omega) (by omega) ?_
      have x9 := (qm (h 54 (m : Int))).mp (rl_of (by omega) (by omega))
      obtain ⟨x0, x1, x2⟩ := x9
      obtain ⟨x63, x64⟩ := j8 m (by omega) (by omega)
      obtain ⟨dx, -, -⟩ := dZ_stop j2 (x := h 54 (m : Int)) x0 (by rw [j3]; exact x1) (by omega)
      obtain ⟨-, ⟨d1, d2⟩, ⟨d3, d4⟩, d5, d6⟩ := dx
      rw [show g 54 (m : Int) = h 54 (m : Int) from congrFun (j1 54 (by omega)) _]
      refine s_ldI3 ok rfl ?_
      refine s_callVvx ok rfl rfl rfl rfl rfl rfl (ct_atStop4 (d := d) (p := p) (w := w) (dd := dd) (x := h 54 (m : Int)) (a := a) (H := Hi) j2.1 j3 j4 x63 a0 a4 ⟨by omega, by omega⟩ ⟨by omega, by omega⟩ ⟨by omega, by omega⟩ x0 x1 x2 hf (fun y y0 y1 => (j2.2 y y0 (by rw [j3]; exact y1)).1) (tC_fr hC (congrFun (j1 37 (by omega)) 6) (fun q z0 z1 => j1 q (by omega))) (cR4_trip hR (fun q hq => j1 q (by omega))) j5) (fun σ45 hσ45 => ?_)
      obtain ⟨g45, rfl, hg45⟩ := hσ45
      refine s_inc4 ok rfl rfl ?_
      refine s_goto ok rfl ?_
      exact ih (m + 1) g45 (jI_next a0 a4 qm rb.2 hH sq (by omega) Hi j2 j3 j4 j6 j7 j8 j9 (fun q hq => (hg45.1 q hq).trans (j1 q hq)) hg45.2) (by omega) (by omega)
theorem lp_go_in15 {E : zE} {d : Nat} {k : Nat → Nat × Nat} {h : Nat → Int → Int} {r : Nat → Int → Option Nat} {l : Nat → Nat → Int64} {n : Nat} {Q : zQ} {p : Int → Int} {w dd : Int} (hp : pOK p) (hdd : dd = 1 ∨ dd = 3) {a : Int} {H : Nat → Int → Int} (a0 : 0 ≤ a) (a4 : a ≤ 4) (hC : tC p w h) (hR : cR 15 16 17 18 19 20 21 22 23 24 k h r n p w) (h37 : h 37 18 = rN p dd) (qm : qM p dd h) (hH : ∀ j : Int, 0 ≤ j → j < rN p dd → h 49 (5 * h 54 j + a) = H 64 (h 54 j)) (sq : sQ h a (rl (h 54) (rN p dd).toNat)) (hf : a = 4 → ∀ q : Int, 0 ≤ q → q < p 6 → ¬ pFr p q = 4) (hX : ∀ g u, znl u = true → (∀ q : Nat, q < 44 ∨ 53 < q → g q = h q) ∧ tT p w dd g (sRS a 12 H) ∧ sA p dd (a + 1) (sRS a 12 H) → zGo E (d + 8) M_X9_go 0 0 Q 54 ([some (.ref 37), some (.ref 15), some (.int (iI (dd - 1))), some (.int (iI (a))), u], [], zJ (k, g, r, l, n), 0, 0)) : ∀ c : Nat, ∀ (m : Nat) (g : Nat → Int → Int), jI p w dd a h H m g → rN p dd < m + c → m ≤ rN p dd → zGo E (d + 8) M_X9_go 0 0 Q 26 ([some (.ref 37), some (.ref 15), some (.int (iI (dd - 1))), some (.int (iI (a))), some (.int (iI ((m : Int))))], [], zJ (k, g, r, l, n), 0, 0) := by
  have ok := ok_X9_go
  intro c
  induction c with
  | zero =>
    intros
    omega
  | succ c ih =>
    intro m g hj g1 g2
    have hj2 := hj
    obtain ⟨Hi, j1, j2, j3, j4, j5, j6, j7, j8, j9⟩ := hj
    have p0 := hp.1
    have p4 := hp.2.1
    have rb : 0 ≤ rN p dd ∧ rN p dd ≤ 12 := by unfold rN; split <;> omega
    refine s_ldI4 ok rfl ?_
    refine s_ldA0 ok rfl ?_
    refine s_getJ 18 ok rfl rfl rfl rfl ?_
    rw [show g 37 18 = rN p dd from (congrFun (j1 37 (by omega)) 18).trans h37]
    refine s_c_ge ok rfl ⟨by omega, by omega⟩ ⟨by omega, by omega⟩ (fun c32 => ?_) (fun c32 => ?_)
    · have em : m = (rN p dd).toNat := by omega
      rw [em] at hj2
      exact hX g _ rfl (jI_end a4 qm rb.1 hj2)
    · refine s_ldA0 ok rfl ?_
      refine s_ldA1 ok rfl ?_
      refine s_ldA0 ok rfl ?_
      refine s_getF ok rfl rfl rfl rfl ?_
      refine s_ldI4 ok rfl ?_
      refine s_iald ok rfl (by exact rfl) (by exact rfl) (by omega) (by omega) ?_
      have x9 := (qm (h 54 (m : Int))).mp (rl_of (by omega) (by omega))
      obtain ⟨x0, x1, x2⟩ := x9
      obtain ⟨x63, x64⟩ := j8 m (by omega) (by omega)
      obtain ⟨dx, -, -⟩ := dZ_stop j2 (x := h 54 (m : Int)) x0 (by rw [j3]; exact x1) (by omega)
      obtain ⟨-, ⟨d1, d2⟩, ⟨d3, d4⟩, d5, d6⟩ := dx
      rw [show g 54 (m : Int) = h 54 (m : Int) from congrFun (j1 54 (by omega)) _]
      refine s_ldI3 ok rfl ?_
      refine s_callVvx ok rfl rfl rfl rfl rfl rfl (ct_atStop15 (d := d) (p := p) (w := w) (dd := dd) (x := h 54 (m : Int)) (a := a) (H := Hi) j2.1 j3 j4 x63 a0 a4 ⟨by omega, by omega⟩ ⟨by omega, by omega⟩ ⟨by omega, by omega⟩ x0 x1 x2 hf (fun y y0 y1 => (j2.2 y y0 (by rw [j3]; exact y1)).1) (tC_fr hC (congrFun (j1 37 (by omega)) 6) (fun q z0 z1 => j1 q (by omega))) (cR15_trip hR (fun q hq => j1 q (by omega))) j5) (fun σ45 hσ45 => ?_)
      obtain ⟨g45, rfl, hg45⟩ := hσ45
      refine s_inc4 ok rfl rfl ?_
      refine s_goto ok rfl ?_
      exact ih (m + 1) g45 (jI_next a0 a4 qm rb.2 hH sq (by omega) Hi j2 j3 j4 j6 j7 j8 j9 (fun q hq => (hg45.1 q hq).trans (j1 q hq)) hg45.2) (by omega) (by omega)
