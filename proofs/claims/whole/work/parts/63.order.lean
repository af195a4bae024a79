/-! the order of events: event by event, or stop by stop -/
theorem hE_swap {x y : Int} {h : Nat → Int → Int} (hd : dZ h) (x0 : 0 ≤ x) (x1 : x < 3 * h 60 0) (hx5 : h 63 x < 5) (y0 : 0 ≤ y) (y1 : y < 3 * h 60 0) (hy5 : h 63 y < 5) (hxy : ¬ x = y) (hab : ¬ h 63 x = h 63 y) : hE (sStop x (sStop y h)) (sStop y (sStop x h)) := by
  have o1 := hd.1.1.2.1
  obtain ⟨ax, tx, zx⟩ := dZ_stop hd x0 x1 hx5
  obtain ⟨ay, ty, zy⟩ := dZ_stop hd y0 y1 hy5
  have X60 : sStop x h 60 = h 60 := tx.1 60 (by omega) (by omega)
  have Y60 : sStop y h 60 = h 60 := ty.1 60 (by omega) (by omega)
  have xy : ∀ n, 63 ≤ n → n ≤ 66 → sStop y h n x = h n x := fun n n0 n1 => ty.2.2.1 n x n0 n1 hxy
  have yx : ∀ n, 63 ≤ n → n ≤ 66 → sStop x h n y = h n y := fun n n0 n1 => tx.2.2.1 n y n0 n1 (fun e => hxy e.symm)
  obtain ⟨bx, tA, -⟩ := dZ_stop zy (x := x) x0 (by rw [Y60]; exact x1) (by rw [xy 63 (by omega) (by omega)]; exact hx5)
  obtain ⟨by', tB, -⟩ := dZ_stop zx (x := y) y0 (by rw [X60]; exact y1) (by rw [yx 63 (by omega) (by omega)]; exact hy5)
  have fx := sStop_fr (x := x) (h := h)
  have fy := sStop_fr (x := y) (h := h)
  have fA := sStop_fr (x := x) (h := sStop y h)
  have fB := sStop_fr (x := y) (h := sStop x h)
  have zbx : zb (h 64 x) := by
    obtain ⟨⟨s0, s1⟩, ⟨t0, t1⟩, -⟩ := ax
    exact ⟨by omega, by omega⟩
  have zby : zb (h 64 y) := by
    obtain ⟨⟨s0, s1⟩, ⟨t0, t1⟩, -⟩ := ay
    exact ⟨by omega, by omega⟩
  -- alike for x before and behind the event of y, and the other way round
  have alike : ∀ (u v : Int) (H : Nat → Int → Int), 0 ≤ u → 0 ≤ v → ¬ u = v → ¬ h 63 u = h 63 v → dT v h H → ((∀ n, nF n → ∀ q, ¬ mAy h v q → H n q = h n q) ∧ (∀ q, ¬ h 69 q = v → H 71 q = h 71 q) ∧ (∀ q, H 69 q = h 69 q ∨ (mAy h v q ∧ H 69 q = v)) ∧ (∀ n, n = 67 ∨ n = 68 → ∀ i, ¬ i = 5 * v + h 63 v → H n i = h n i)) → eQ u (h 63 u) (h 60 6) (zv h 59 19 0) (zv H 59 19 0) := fun u v H u0 v0 huv hst t f => by
    refine ⟨by rw [zv_other (by omega), zv_other (by omega)]; exact t.1 60 (by omega) (by omega), fun j hj => ?_, fun n n0 n1 => by rw [zv_other (by omega), zv_other (by omega)]; exact t.2.2.1 n u n0 n1 huv, fun q q0 q1 => ?_⟩
    · by_cases c : j = 19
      · rw [c, zv_is, zv_is]
      · rw [zv_at c, zv_at c]; exact t.2.1 j c
    · rw [zv_other (by omega), zv_other (by omega), zv_other (by omega), zv_other (by omega), zv_other (by omega)]
      refine ⟨?_, fun w => f.2.1 q (by omega), fun w => ⟨fun n hn => ?_, fun w2 => f.2.1 q (by omega)⟩⟩
      · rcases f.2.2.1 q with c | c
        · rw [c]
        · have := c.1.2
          omega
      · have hn2 := hn
        unfold nF at hn2
        rw [zv_other (by omega), zv_other (by omega)]
        exact f.1 n hn q (fun m => hst (w.symm.trans m.1))
  obtain ⟨qx, wx⟩ := eQ_stop hd.1 zy.1 zbx x0 (by omega) (alike x y _ x0 y0 hxy hab ty fy)
  obtain ⟨qy, wy⟩ := eQ_stop hd.1 zx.1 zby y0 (by omega) (alike y x _ y0 x0 (fun e => hxy e.symm) (fun e => hab e.symm) tx fx)
  have A60 : sStop x (sStop y h) 60 = h 60 := (tA.1 60 (by omega) (by omega)).trans Y60
  have B60 : sStop y (sStop x h) 60 = h 60 := (tB.1 60 (by omega) (by omega)).trans X60
  unfold hE
  rw [A60, B60]
  refine ⟨rfl, fun j hj => ?_, fun n n0 n1 z z0 z1 => ?_, fun n n0 n1 q q0 q1 => ?_, fun n hn z b z0 z1 b0 b1 => ?_⟩
  · rw [tB.2.1 j (by omega), tA.2.1 j (by omega), tx.2.1 j (by omega), ty.2.1 j (by omega)]
  · by_cases c : z = x
    · rw [c, tB.2.2.1 n x n0 n1 hxy]
      exact (qx.2.2.1 n n0 n1).symm
    · by_cases d : z = y
      · rw [d, tA.2.2.1 n y n0 n1 (fun e => hxy e.symm)]
        exact qy.2.2.1 n n0 n1
      · rw [tB.2.2.1 n z n0 n1 d, tA.2.2.1 n z n0 n1 c, tx.2.2.1 n z n0 n1 c, ty.2.2.1 n z n0 n1 d]
  · obtain ⟨k1, k2, k3⟩ := qx.2.2.2 q q0 q1
    obtain ⟨l1, l2, l3⟩ := qy.2.2.2 q q0 q1
    rw [X60] at k3
    rw [Y60] at l3
    have mB : mAy (sStop x h) y q → pFr (h 60) q = h 63 y := fun m => by
      have := m.1
      rw [X60, yx 63 (by omega) (by omega)] at this
      exact this
    have mA : mAy (sStop y h) x q → pFr (h 60) q = h 63 x := fun m => by
      have := m.1
      rw [Y60, xy 63 (by omega) (by omega)] at this
      exact this
    by_cases c : n = 71
    · subst c
      by_cases u : sStop x h 69 q = x
      · rw [k2 u, fB.2.1 q (by rw [u]; exact hxy)]
      · by_cases v : sStop y h 69 q = y
        · rw [l2 v, fA.2.1 q (by rw [v]; exact fun e => hxy e.symm)]
        · have h1 : ¬ h 69 q = x := fun e => by
            rcases fx.2.2.1 q with w | w
            · exact u (w.trans e)
            · exact u w.2
          have h2 : ¬ h 69 q = y := fun e => by
            rcases fy.2.2.1 q with w | w
            · exact v (w.trans e)
            · exact v w.2
          have h3 : ¬ sStop y h 69 q = x := fun e => by
            rcases fy.2.2.1 q with w | w
            · exact h1 (w.symm.trans e)
            · exact hxy (e.symm.trans w.2)
          have h4 : ¬ sStop x h 69 q = y := fun e => by
            rcases fx.2.2.1 q with w | w
            · exact h2 (w.symm.trans e)
            · exact hxy (w.2.symm.trans e)
          rw [fA.2.1 q h3, fB.2.1 q h4, fx.2.1 q h1, fy.2.1 q h2]
    · have hn : nF n := by unfold nF; omega
      by_cases u : pFr (h 60) q = h 63 x
      · rw [(k3 u).1 n hn, fB.1 n hn q (fun m => hab (u.symm.trans (mB m)))]
      · by_cases v : pFr (h 60) q = h 63 y
        · rw [(l3 v).1 n hn, fA.1 n hn q (fun m => u (mA m))]
        · rw [fA.1 n hn q (fun m => u (mA m)), fB.1 n hn q (fun m => v (mB m)), fx.1 n hn q (fun m => u m.1), fy.1 n hn q (fun m => v m.1)]
  · have rx := (hd.2 x x0 x1).1
    have ry := (hd.2 y y0 y1).1
    have ex := xy 63 (by omega) (by omega)
    have ey := yx 63 (by omega) (by omega)
    by_cases c : z = x
    · subst c
      rw [tA.2.2.2.1, ex] at b1
      by_cases d : b = h 63 z
      · rw [d, fB.2.2.2 n hn _ (by rw [ey]; omega)]
        exact (wx n hn).symm
      · rw [fA.2.2.2 n hn _ (by rw [ex]; omega), fB.2.2.2 n hn _ (by rw [ey]; omega), fx.2.2.2 n hn _ (by omega), fy.2.2.2 n hn _ (by omega)]
    · rw [tA.2.2.1 63 z (by omega) (by omega) c] at b1
      by_cases d : z = y
      · subst d
        rw [ty.2.2.2.1] at b1
        by_cases d2 : b = h 63 z
        · rw [d2, fA.2.2.2 n hn _ (by rw [ex]; omega)]
          exact wy n hn
        · rw [fA.2.2.2 n hn _ (by rw [ex]; omega), fB.2.2.2 n hn _ (by rw [ey]; omega), fx.2.2.2 n hn _ (by omega), fy.2.2.2 n hn _ (by omega)]
      · rw [ty.2.2.1 63 z (by omega) (by omega) d] at b1
        have rz := (hd.2 z z0 z1).1
        rw [fA.2.2.2 n hn _ (by rw [ex]; omega), fB.2.2.2 n hn _ (by rw [ey]; omega), fx.2.2.2 n hn _ (by omega), fy.2.2.2 n hn _ (by omega)]
/-- the first train at the stop a among the first c: the least minute, the first of equals; -4 if none -/
def sNa (a : Int) (h : Nat → Int → Int) : Nat → Int
  | 0 => -4
  | c + 1 => if h 63 c = a ∧ (sNa a h c < 0 ∨ h 64 c < h 64 (sNa a h c)) then c else sNa a h c
theorem sNa_in (a : Int) (h : Nat → Int → Int) : ∀ c : Nat, sNa a h c = -4 ∨ (0 ≤ sNa a h c ∧ sNa a h c < c ∧ h 63 (sNa a h c) = a)
  | 0 => Or.inl rfl
  | c + 1 => by
    have i := sNa_in a h c
    have e : sNa a h (c + 1) = if h 63 c = a ∧ (sNa a h c < 0 ∨ h 64 c < h 64 (sNa a h c)) then (c : Int) else sNa a h c := rfl
    by_cases q : h 63 c = a ∧ (sNa a h c < 0 ∨ h 64 c < h 64 (sNa a h c))
    · rw [if_pos q] at e
      rw [e]
      exact Or.inr ⟨by omega, by omega, q.1⟩
    · rw [if_neg q] at e
      rw [e]
      omega
/-- x comes no later than y -/
def lx (h : Nat → Int → Int) (x y : Int) : Prop := h 64 x < h 64 y ∨ (h 64 x = h 64 y ∧ x ≤ y)
theorem sNa_le (a : Int) (h : Nat → Int → Int) : ∀ c : Nat, ∀ y : Int, 0 ≤ y → y < c → h 63 y = a → 0 ≤ sNa a h c ∧ lx h (sNa a h c) y
  | 0 => fun y y0 y1 _ => by omega
  | c + 1 => by
    have i := sNa_le a h c
    have j := sNa_in a h c
    have e : sNa a h (c + 1) = if h 63 c = a ∧ (sNa a h c < 0 ∨ h 64 c < h 64 (sNa a h c)) then (c : Int) else sNa a h c := rfl
    intro y y0 y1 ya
    unfold lx at *
    by_cases q : h 63 c = a ∧ (sNa a h c < 0 ∨ h 64 c < h 64 (sNa a h c))
    · rw [if_pos q] at e
      rw [e]
      by_cases z : y = c
      · rw [z]; omega
      · have := i y y0 (by omega) ya
        omega
    · rw [if_neg q] at e
      rw [e]
      by_cases z : y = c
      · subst z
        have := q ∘ (fun w => And.intro ya w)
        omega
      · exact i y y0 (by omega) ya
theorem sNa_is {a x : Int} {h : Nat → Int → Int} {c : Nat} (x0 : 0 ≤ x) (x1 : x < c) (xa : h 63 x = a) (hl : ∀ y : Int, 0 ≤ y → y < c → h 63 y = a → lx h x y) : sNa a h c = x := by
  obtain ⟨i, j⟩ := sNa_le a h c x x0 x1 xa
  rcases sNa_in a h c with k | ⟨k1, k2, k3⟩
  · omega
  · have := hl _ k1 k2 k3
    unfold lx at *
    omega
theorem sNx_le (h : Nat → Int → Int) : ∀ c : Nat, ∀ y : Int, 0 ≤ y → y < c → h 63 y < 5 → 0 ≤ sNx h c ∧ lx h (sNx h c) y
  | 0 => fun y y0 y1 _ => by omega
  | c + 1 => by
    have i := sNx_le h c
    have j := sNx_in h c
    have e : sNx h (c + 1) = if h 63 c < 5 ∧ (sNx h c < 0 ∨ h 64 c < h 64 (sNx h c)) then (c : Int) else sNx h c := rfl
    intro y y0 y1 ya
    unfold lx at *
    by_cases q : h 63 c < 5 ∧ (sNx h c < 0 ∨ h 64 c < h 64 (sNx h c))
    · rw [if_pos q] at e
      rw [e]
      by_cases z : y = c
      · rw [z]; omega
      · have := i y y0 (by omega) ya
        omega
    · rw [if_neg q] at e
      rw [e]
      by_cases z : y = c
      · subst z
        have := q ∘ (fun w => And.intro ya w)
        omega
      · exact i y y0 (by omega) ya
theorem sNa_cg {a : Int} {h g : Nat → Int → Int} : ∀ c : Nat, (∀ y : Int, 0 ≤ y → y < c → (g 63 y = a ↔ h 63 y = a) ∧ (h 63 y = a → g 64 y = h 64 y)) → sNa a g c = sNa a h c
  | 0, _ => rfl
  | c + 1, e => by
    have i := sNa_cg c (fun y y0 y1 => e y y0 (by omega))
    have j := sNa_in a h c
    obtain ⟨e1, e2⟩ := e c (by omega) (by omega)
    unfold sNa
    rw [i]
    by_cases w : h 63 c = a
    · rw [e2 w]
      rcases j with j | ⟨j1, j2, j3⟩
      · rw [j, if_pos ⟨e1.mpr w, Or.inl (by omega)⟩, if_pos ⟨w, Or.inl (by omega)⟩]
      · rw [(e _ j1 (by omega)).2 j3]
        by_cases z : sNa a h c < 0 ∨ h 64 c < h 64 (sNa a h c)
        · rw [if_pos ⟨e1.mpr w, z⟩, if_pos ⟨w, z⟩]
        · rw [if_neg (fun t => z t.2), if_neg (fun t => z t.2)]
    · rw [if_neg (fun t => w (e1.mp t.1)), if_neg (fun t => w t.1)]
/-- at most c trains at the stop a, one after another -/
def sRS (a : Int) : Nat → (Nat → Int → Int) → Nat → Int → Int
  | 0, h => h
  | c + 1, h => if sNa a h (nT h) < 0 then h else sRS a c (sStop (sNa a h (nT h)) h)
/-- the stops below k, one after another -/
def sFF : Nat → (Nat → Int → Int) → Nat → Int → Int
  | 0, h => h
  | k + 1, h => sRS (k : Int) 12 (sFF k h)
theorem nT_is {h : Nat → Int → Int} (hd : dZ h) : (nT h : Int) = 3 * h 60 0 ∧ nT h ≤ 12 := by
  have n0 := hd.1.1.1
  have n1 := hd.1.1.2.1
  unfold nT
  omega
theorem sNa_ok {a : Int} {h : Nat → Int → Int} (hd : dZ h) (ha : a < 5) (hn : ¬ sNa a h (nT h) < 0) : 0 ≤ sNa a h (nT h) ∧ sNa a h (nT h) < 3 * h 60 0 ∧ h 63 (sNa a h (nT h)) = a := by
  have j := sNa_in a h (nT h)
  have := nT_is hd
  omega
/-- a frame of many events at the stop a -/
theorem sRS_ok {a : Int} (ha : a < 5) : ∀ (c : Nat) {h : Nat → Int → Int}, dZ h → dZ (sRS a c h) ∧ sRS a c h 60 = h 60 ∧ (∀ j, ¬ j = 19 → sRS a c h 59 j = h 59 j) ∧ (∀ y : Int, 0 ≤ y → y < 3 * h 60 0 → ¬ h 63 y = a → ∀ n, 63 ≤ n → n ≤ 66 → sRS a c h n y = h n y) ∧ (∀ y : Int, 0 ≤ y → y < 3 * h 60 0 → h 63 y = a → (sRS a c h 63 y = a ∨ sRS a c h 63 y = a + 1) ∧ h 64 y ≤ sRS a c h 64 y)
  | 0, h, hd => ⟨hd, rfl, fun _ _ => rfl, fun _ _ _ _ _ _ _ => rfl, fun y _ _ e => ⟨Or.inl e, Int.le_refl _⟩⟩
  | c + 1, h, hd => by
    unfold sRS
    by_cases w : sNa a h (nT h) < 0
    · rw [if_pos w]
      exact ⟨hd, rfl, fun _ _ => rfl, fun _ _ _ _ _ _ _ => rfl, fun y _ _ e => ⟨Or.inl e, Int.le_refl _⟩⟩
    · rw [if_neg w]
      obtain ⟨s0, s1, s2⟩ := sNa_ok hd ha w
      generalize sNa a h (nT h) = x at *
      obtain ⟨-, t, z⟩ := dZ_stop hd s0 s1 (by omega)
      have e60 : sStop x h 60 = h 60 := t.1 60 (by omega) (by omega)
      obtain ⟨i1, i2, i3, i4, i5⟩ := sRS_ok ha c z
      rw [e60] at i2 i4 i5
      refine ⟨i1, i2, fun j hj => (i3 j hj).trans (t.2.1 j hj), fun y y0 y1 ya n n0 n1 => ?_, fun y y0 y1 ya => ?_⟩
      · have ny : ¬ y = x := fun e => ya (by rw [e]; exact s2)
        rw [i4 y y0 y1 (by rw [t.2.2.1 63 y (by omega) (by omega) ny]; exact ya) n n0 n1]
        exact t.2.2.1 n y n0 n1 ny
      · by_cases e : y = x
        · subst e
          have e63 := t.2.2.2.1
          have k := i4 y y0 y1 (by omega)
          rw [k 63 (by omega) (by omega), k 64 (by omega) (by omega)]
          have := t.2.2.2.2.1
          omega
        · have f3 := t.2.2.1 63 y (by omega) (by omega) e
          have f4 := t.2.2.1 64 y (by omega) (by omega) e
          have := i5 y y0 y1 (by omega)
          omega
theorem sRS_E {a : Int} (ha : a < 5) : ∀ (c : Nat) {h g : Nat → Int → Int}, dZ h → dZ g → hE h g → hE (sRS a c h) (sRS a c g)
  | 0, _, _, _, _, e => e
  | c + 1, h, g, hd, gd, e => by
    have en : nT g = nT h := by unfold nT; rw [e.1]
    have hn := nT_is hd
    have ex : sNa a g (nT h) = sNa a h (nT h) := sNa_cg _ fun y y0 y1 => by
      rw [e.2.2.1 63 (by omega) (by omega) y y0 (by omega), e.2.2.1 64 (by omega) (by omega) y y0 (by omega)]
      exact ⟨Iff.rfl, fun _ => rfl⟩
    unfold sRS
    rw [en, ex]
    by_cases w : sNa a h (nT h) < 0
    · rw [if_pos w, if_pos w]; exact e
    · rw [if_neg w, if_neg w]
      obtain ⟨s0, s1, s2⟩ := sNa_ok hd ha w
      generalize sNa a h (nT h) = x at *
      obtain ⟨-, t, z⟩ := dZ_stop hd s0 s1 (by omega)
      obtain ⟨-, t2, z2⟩ := dZ_stop gd (x := x) s0 (by rw [e.1]; exact s1) (by rw [e.2.2.1 63 (by omega) (by omega) x s0 s1]; omega)
      exact sRS_E ha c z z2 (hE_stop hd gd e s0 s1 (by omega))
/-- an event at a later stop may go ahead of a stop -/
theorem sRS_sw {a x : Int} (ha : a < 5) : ∀ (c : Nat) {h : Nat → Int → Int}, dZ h → 0 ≤ x → x < 3 * h 60 0 → a < h 63 x → h 63 x < 5 → hE (sRS a c (sStop x h)) (sStop x (sRS a c h))
  | 0, _, _, _, _, _, _ => hE.rf
  | c + 1, h, hd, x0, x1, xa, x5 => by
    obtain ⟨-, tx, zx⟩ := dZ_stop hd x0 x1 x5
    have e60 : sStop x h 60 = h 60 := tx.1 60 (by omega) (by omega)
    have en : nT (sStop x h) = nT h := by unfold nT; rw [e60]
    have hn := nT_is hd
    have ex : sNa a (sStop x h) (nT h) = sNa a h (nT h) := sNa_cg _ fun y y0 y1 => by
      by_cases c9 : y = x
      · subst c9
        have := tx.2.2.2.1
        exact ⟨⟨fun _ => by omega, fun _ => by omega⟩, fun _ => by omega⟩
      · rw [tx.2.2.1 63 y (by omega) (by omega) c9, tx.2.2.1 64 y (by omega) (by omega) c9]
        exact ⟨Iff.rfl, fun _ => rfl⟩
    unfold sRS
    rw [en, ex]
    by_cases w : sNa a h (nT h) < 0
    · rw [if_pos w, if_pos w]; exact hE.rf
    · rw [if_neg w, if_neg w]
      obtain ⟨s0, s1, s2⟩ := sNa_ok hd ha w
      generalize sNa a h (nT h) = y at *
      have nxy : ¬ x = y := fun e => by rw [e] at xa; omega
      obtain ⟨-, ty, zy⟩ := dZ_stop hd s0 s1 (by omega)
      have f60 : sStop y h 60 = h 60 := ty.1 60 (by omega) (by omega)
      have f63 : sStop y h 63 x = h 63 x := ty.2.2.1 63 x (by omega) (by omega) nxy
      obtain ⟨-, -, zxy⟩ := dZ_stop zy (x := x) x0 (by rw [f60]; exact x1) (by rw [f63]; exact x5)
      obtain ⟨-, -, zyx⟩ := dZ_stop zx (x := y) s0 (by rw [e60]; exact s1) (by rw [tx.2.2.1 63 y (by omega) (by omega) (fun e => nxy e.symm)]; omega)
      have sw := hE_swap hd x0 x1 x5 s0 s1 (by omega) nxy (by omega)
      exact (sRS_E ha c zyx zxy sw.sy).tr (sRS_sw ha c zy x0 (by rw [f60]; exact x1) (by rw [f63]; exact xa) (by rw [f63]; exact x5))
/-- how many of the first c are at the stop a -/
def sCt (a : Int) (h : Nat → Int → Int) : Nat → Nat
  | 0 => 0
  | c + 1 => sCt a h c + (if h 63 c = a then 1 else 0)
theorem sCt_le {a : Int} {h : Nat → Int → Int} : ∀ c : Nat, sCt a h c ≤ c
  | 0 => Nat.le_refl _
  | c + 1 => by
    have := sCt_le (a := a) (h := h) c
    unfold sCt
    split <;> omega
theorem sCt_lt {a x : Int} {h : Nat → Int → Int} (x0 : 0 ≤ x) (hx : ¬ h 63 x = a) : ∀ c : Nat, x < c → sCt a h c + 1 ≤ c
  | 0, h1 => by omega
  | c + 1, h1 => by
    unfold sCt
    by_cases e : x = c
    · subst e
      rw [if_neg hx]
      have := sCt_le (a := a) (h := h) c
      omega
    · have := sCt_lt x0 hx c (by omega)
      split <;> omega
theorem sCt_st {a x : Int} {h g : Nat → Int → Int} (x0 : 0 ≤ x) (hx : h 63 x = a) (gx : g 63 x = a + 1) (e : ∀ y, ¬ y = x → g 63 y = h 63 y) : ∀ c : Nat, sCt a h c = sCt a g c + (if x < c then 1 else 0)
  | 0 => by rw [if_neg (by omega)]; rfl
  | c + 1 => by
    have i := sCt_st x0 hx gx e c
    unfold sCt
    rw [i]
    by_cases q : (c : Int) = x
    · have h1 : h 63 c = a := by rw [q]; exact hx
      have g1 : g 63 c = a + 1 := by rw [q]; exact gx
      rw [if_pos h1, if_neg (show ¬ g 63 c = a by omega), if_neg (show ¬ x < (c : Int) by omega), if_pos (show x < ((c + 1 : Nat) : Int) by omega)]
    · rw [e c q]
      by_cases w : x < (c : Int)
      · rw [if_pos w, if_pos (show x < ((c + 1 : Nat) : Int) by omega)]; omega
      · rw [if_neg w, if_neg (show ¬ x < ((c + 1 : Nat) : Int) by omega)]; omega
theorem sCt_0 {a : Int} {h : Nat → Int → Int} : ∀ c : Nat, sCt a h c = 0 → sNa a h c = -4
  | 0, _ => rfl
  | c + 1, e => by
    unfold sCt at e
    have i := sCt_0 (a := a) (h := h) c (by omega)
    unfold sNa
    rw [i, if_neg (fun z => by rw [if_pos z.1] at e; omega)]
/-- enough is enough -/
theorem sRS_fu {a : Int} (ha : a < 5) : ∀ (c : Nat) {h : Nat → Int → Int}, dZ h → sCt a h (nT h) ≤ c → sRS a (c + 1) h = sRS a c h
  | 0, h, hd, e => by
    have := sCt_0 (nT h) (show sCt a h (nT h) = 0 by omega)
    show (if sNa a h (nT h) < 0 then h else _) = h
    rw [if_pos (by omega)]
  | c + 1, h, hd, e => by
    show (if sNa a h (nT h) < 0 then h else sRS a (c + 1) (sStop (sNa a h (nT h)) h)) = (if sNa a h (nT h) < 0 then h else sRS a c (sStop (sNa a h (nT h)) h))
    by_cases w : sNa a h (nT h) < 0
    · rw [if_pos w, if_pos w]
    · rw [if_neg w, if_neg w]
      obtain ⟨s0, s1, s2⟩ := sNa_ok hd ha w
      have hn := nT_is hd
      generalize sNa a h (nT h) = y at *
      obtain ⟨-, ty, zy⟩ := dZ_stop hd s0 s1 (by omega)
      have en : nT (sStop y h) = nT h := by unfold nT; rw [ty.1 60 (by omega) (by omega)]
      refine sRS_fu ha c zy ?_
      have := sCt_st (a := a) (h := h) (g := sStop y h) s0 s2 (by rw [ty.2.2.2.1]; omega) (fun z hz => ty.2.2.1 63 z (by omega) (by omega) hz) (nT h)
      rw [if_pos (by omega)] at this
      rw [en]
      omega
