/-! two events of two trains at two stops may change places -/
theorem eQ_tr {x a np v : Int} {h g : Nat → Int → Int} {n : Nat} (n0 : 63 ≤ n) (n1 : n ≤ 66) (e : eQ x a np h g) : eQ x a np (zv h n x v) (zv g n x v) := by
  obtain ⟨i0, i1, i2, i3⟩ := e
  refine ⟨by rw [zv_other (by omega), zv_other (by omega)]; exact i0, fun j hj => by rw [zv_other (by omega), zv_other (by omega)]; exact i1 j hj, fun m m0 m1 => ?_, fun q q0 q1 => ?_⟩
  · by_cases c : m = n
    · rw [c, zv_is, zv_is]
    · rw [zv_other c, zv_other c]; exact i2 m m0 m1
  · have eo : ∀ f : Nat → Int → Int, ∀ m, nF m ∨ m = 71 ∨ m = 60 → zv f n x v m = f m := fun f m hm => by
      unfold nF at hm
      exact zv_other (by omega)
    rw [eo _ 69 (Or.inl (Or.inl rfl)), eo _ 69 (Or.inl (Or.inl rfl)), eo _ 71 (Or.inr (Or.inl rfl)), eo _ 71 (Or.inr (Or.inl rfl)), eo _ 60 (Or.inr (Or.inr rfl))]
    obtain ⟨k1, k2, k3⟩ := i3 q q0 q1
    exact ⟨k1, k2, fun z => ⟨fun m hm => by rw [eo _ m (Or.inl hm), eo _ m (Or.inl hm)]; exact (k3 z).1 m hm, (k3 z).2⟩⟩
theorem eQ_ot {x a np : Int} {h g h2 g2 : Nat → Int → Int} (e : eQ x a np h g) (eh : ∀ n, n = 60 ∨ n = 59 ∨ (63 ≤ n ∧ n ≤ 66) ∨ nF n ∨ n = 71 → h2 n = h n) (eg : ∀ n, n = 60 ∨ n = 59 ∨ (63 ≤ n ∧ n ≤ 66) ∨ nF n ∨ n = 71 → g2 n = g n) : eQ x a np h2 g2 := by
  obtain ⟨i0, i1, i2, i3⟩ := e
  refine ⟨by rw [eh 60 (by omega), eg 60 (by omega)]; exact i0, fun j hj => by rw [eh 59 (by omega), eg 59 (by omega)]; exact i1 j hj, fun m m0 m1 => by rw [eh m (by omega), eg m (by omega)]; exact i2 m m0 m1, fun q q0 q1 => ?_⟩
  have f9 : nF 69 := Or.inl rfl
  rw [eh 69 (Or.inr (Or.inr (Or.inr (Or.inl f9)))), eg 69 (Or.inr (Or.inr (Or.inr (Or.inl f9)))), eh 71 (by omega), eg 71 (by omega), eh 60 (by omega)]
  obtain ⟨k1, k2, k3⟩ := i3 q q0 q1
  exact ⟨k1, k2, fun z => ⟨fun m hm => by rw [eh m (Or.inr (Or.inr (Or.inr (Or.inl hm)))), eg m (Or.inr (Or.inr (Or.inr (Or.inl hm))))]; exact (k3 z).1 m hm, (k3 z).2⟩⟩
theorem eQ_stop {x : Int} {h g : Nat → Int → Int} (hd : dP h) (gd : dP g) (h4 : zb (h 64 x)) (x0 : 0 ≤ x) (x1 : x < 12) (e : eQ x (h 63 x) (h 60 6) (zv h 59 19 0) (zv g 59 19 0)) : eQ x (h 63 x) (h 60 6) (sStop x h) (sStop x g) ∧ (∀ n, n = 67 ∨ n = 68 → sStop x g n (5 * x + h 63 x) = sStop x h n (5 * x + h 63 x)) := by
  have hn := nP_ok hd
  have i0 : g 60 = h 60 := by have := e.1; rw [zv_other (by omega), zv_other (by omega)] at this; exact this
  have eg : nP g = nP h := by unfold nP; rw [i0]
  have e63 : g 63 x = h 63 x := by have := e.2.2.1 63 (by omega) (by omega); rw [zv_other (by omega), zv_other (by omega)] at this; exact this
  have e64 : g 64 x = h 64 x := by have := e.2.2.1 64 (by omega) (by omega); rw [zv_other (by omega), zv_other (by omega)] at this; exact this
  have B2 := sS2_ok (x := x) gd (by rw [e64]; exact h4)
  have A2 := sS2_ok (x := x) hd h4
  have A4 := sS4_ok (x := x) hd h4 x0 x1
  have B4 := sS4_ok (x := x) gd (by rw [e64]; exact h4) x0 x1
  have q1 : eQ x (h 63 x) (h 60 6) (zv (zv h 59 19 0) 67 (5 * x + h 63 x) (h 64 x)) (zv (zv g 59 19 0) 67 (5 * x + g 63 x) (g 64 x)) := eQ_ot e (fun n hn => by unfold nF at hn; exact zv_other (by omega)) (fun n hn => by unfold nF at hn; exact zv_other (by omega))
  have q2 : eQ x (h 63 x) (h 60 6) (sS2 x h) (sS2 x g) := by
    unfold sS2
    rw [eg]
    exact eQ_GO x0 q1 (nP h) (by omega)
  obtain ⟨f1, f2, f3⟩ := sS2_fr (x := x) (h := h)
  have q4 : eQ x (h 63 x) (h 60 6) (sS4 x h) (sS4 x g) := by
    unfold sS4
    rw [e63]
    split
    · obtain ⟨a1, a2⟩ := eQ_As q2 (by rw [f2 63 (by omega)]) (nP h) (by omega)
      have mem := sAs_mem (x := x) (h := sS2 x h) (nP h)
      have q3 : eQ x (h 63 x) (h 60 6) (sS3 x h) (sS3 x g) := eQ_ot q2 (fun n hn => by unfold nF at hn; exact zar_other (by omega)) (fun n hn => by unfold nF at hn; exact zar_other (by omega))
      rw [sTa_75, sTa_75, eg, ← a1]
      refine eQ_Tz x0 q3 _ (fun j j0 j1 => ?_)
      have e1 : sS3 x h 75 j = (sAs x (sS2 x h) (nP h)).2 j := congrFun zar_at j
      have e2 : sS3 x g 75 j = (sAs x (sS2 x g) (nP g)).2 j := congrFun zar_at j
      have e3 : sS3 x h 60 = sS2 x h 60 := zar_other (by omega)
      have e4 : sS3 x h 69 = sS2 x h 69 := zar_other (by omega)
      rw [e1, e2, eg, e3, e4]
      obtain ⟨⟨b0, b1⟩, b2, b3, b4⟩ := mem j j0 j1
      exact ⟨⟨b0, by omega⟩, (a2 j j0 j1).symm, by rw [b4, f2 63 (by omega)], b3⟩
    · exact q2
  have q5 : eQ x (h 63 x) (h 60 6) (sS5 x h) (sS5 x g) := by
    unfold sS5
    rw [q4.2.2.1 66 (by omega) (by omega), q4.2.2.1 65 (by omega) (by omega)]
    exact eQ_tr (by omega) (by omega) q4
  have em : zmk (zabd (sS5 x g) x) (nP h) = zmk (zabd (sS5 x h) x) (nP h) := zmk_cg _ fun p p0 p1 => by
    obtain ⟨k1, k2, -⟩ := q5.2.2.2 p p0 (by omega)
    unfold zabd
    by_cases z : sS5 x h 69 p = x
    · rw [k2 z, k1.mpr z, z]
    · have z2 : ¬ sS5 x g 69 p = x := fun y => z (k1.mp y)
      rw [decide_eq_false (fun y => z2 y.1), decide_eq_false (fun y => z y.1)]
  have q6 : eQ x (h 63 x) (h 60 6) (sS6 x h) (sS6 x g) := eQ_ot q5 (fun n hn => by unfold nF at hn; exact zv_other (by omega)) (fun n hn => by unfold nF at hn; exact zv_other (by omega))
  have q7 : eQ x (h 63 x) (h 60 6) (sS7 x h) (sS7 x g) := by
    unfold sS7
    rw [e63, e64, i0, q4.2.1 19 (by omega)]
    split
    · exact eQ_tr (by omega) (by omega) q6
    · exact q6
  refine ⟨?_, fun n hn9 => ?_⟩
  · unfold sStop
    rw [e63]
    exact eQ_tr (by omega) (by omega) q7
  · have t7 : ∀ f : Nat → Int → Int, sStop x f n = sS6 x f n := fun f => by
      unfold sStop
      rw [zv_other (by omega)]
      unfold sS7
      split
      · rw [zv_other (by omega)]
      · rfl
    rw [t7, t7]
    unfold sS6
    rw [eg, e63, em]
    rcases hn9 with c | c
    · rw [c, zv_other (by omega), zv_other (by omega)]
      have w1 : sS5 x h 67 = sS4 x h 67 := zv_other (by omega)
      have w2 : sS5 x g 67 = sS4 x g 67 := zv_other (by omega)
      rw [w1, w2, A4.2.2.2.2.2.1, B4.2.2.2.2.2.1, e63, e64, zv_is, zv_is]
    · rw [c, zv_is, zv_is]
/-- alike in all that counts -/
def hE (h g : Nat → Int → Int) : Prop := g 60 = h 60 ∧ (∀ j : Int, j = 17 ∨ j = 18 → g 59 j = h 59 j) ∧ (∀ n : Nat, 63 ≤ n → n ≤ 66 → ∀ y : Int, 0 ≤ y → y < 3 * h 60 0 → g n y = h n y) ∧ (∀ n : Nat, 69 ≤ n → n ≤ 74 → ∀ q : Int, 0 ≤ q → q < h 60 6 → g n q = h n q) ∧ (∀ n : Nat, n = 67 ∨ n = 68 → ∀ y b : Int, 0 ≤ y → y < 3 * h 60 0 → 0 ≤ b → b < h 63 y → g n (5 * y + b) = h n (5 * y + b))
theorem hE.rf {h : Nat → Int → Int} : hE h h := ⟨rfl, fun _ _ => rfl, fun _ _ _ _ _ _ => rfl, fun _ _ _ _ _ _ => rfl, fun _ _ _ _ _ _ _ _ => rfl⟩
theorem hE.sy {h g : Nat → Int → Int} (e : hE h g) : hE g h := by
  obtain ⟨a, b, c, d, f⟩ := e
  exact ⟨a.symm, fun j hj => (b j hj).symm, fun n n0 n1 y y0 y1 => (c n n0 n1 y y0 (by rw [← a]; exact y1)).symm, fun n n0 n1 q q0 q1 => (d n n0 n1 q q0 (by rw [← a]; exact q1)).symm, fun n hn y z y0 y1 z0 z1 => (f n hn y z y0 (by rw [← a]; exact y1) z0 (by rw [← c 63 (by omega) (by omega) y y0 (by rw [← a]; exact y1)]; exact z1)).symm⟩
theorem hE.tr {h g f : Nat → Int → Int} (e : hE h g) (e2 : hE g f) : hE h f := by
  obtain ⟨a, b, c, d, m⟩ := e
  obtain ⟨a2, b2, c2, d2, m2⟩ := e2
  rw [a] at a2 c2 d2 m2
  exact ⟨a2, fun j hj => (b2 j hj).trans (b j hj), fun n n0 n1 y y0 y1 => (c2 n n0 n1 y y0 y1).trans (c n n0 n1 y y0 y1), fun n n0 n1 q q0 q1 => (d2 n n0 n1 q q0 q1).trans (d n n0 n1 q q0 q1), fun n hn y z y0 y1 z0 z1 => (m2 n hn y z y0 y1 z0 (by rw [c 63 (by omega) (by omega) y y0 y1]; exact z1)).trans (m n hn y z y0 y1 z0 z1)⟩
theorem hE_Q {h g : Nat → Int → Int} {x a : Int} (e : hE h g) (x0 : 0 ≤ x) (x1 : x < 3 * h 60 0) : eQ x a (h 60 6) (zv h 59 19 0) (zv g 59 19 0) := by
  obtain ⟨i0, i1, i2, i3, i4⟩ := e
  refine ⟨by rw [zv_other (by omega), zv_other (by omega)]; exact i0, fun j hj => ?_, fun n n0 n1 => by rw [zv_other (by omega), zv_other (by omega)]; exact i2 n n0 n1 x x0 x1, fun q q0 q1 => ?_⟩
  · by_cases c : j = 19
    · rw [c, zv_is, zv_is]
    · rw [zv_at c, zv_at c]; exact i1 j (by omega)
  · rw [zv_other (by omega), zv_other (by omega), zv_other (by omega), zv_other (by omega), i3 69 (by omega) (by omega) q q0 q1, i3 71 (by omega) (by omega) q q0 q1]
    exact ⟨Iff.rfl, fun _ => rfl, fun _ => ⟨fun n hn => by unfold nF at hn; rw [zv_other (by omega), zv_other (by omega)]; exact i3 n (by omega) (by omega) q q0 q1, fun _ => rfl⟩⟩
/-- what an event of x leaves of a state, from what another state that is alike for it makes of it -/
theorem hE_two {x : Int} {h g H G : Nat → Int → Int} (x0 : 0 ≤ x) (tH : dT x h H) (tG : dT x g G) (fH : (∀ n, nF n → ∀ q, ¬ mAy h x q → H n q = h n q) ∧ (∀ q, ¬ h 69 q = x → H 71 q = h 71 q) ∧ (∀ q, H 69 q = h 69 q ∨ (mAy h x q ∧ H 69 q = x)) ∧ (∀ n, n = 67 ∨ n = 68 → ∀ i, ¬ i = 5 * x + h 63 x → H n i = h n i)) (fG : (∀ n, nF n → ∀ q, ¬ mAy g x q → G n q = g n q) ∧ (∀ q, ¬ g 69 q = x → G 71 q = g 71 q) ∧ (∀ q, G 69 q = g 69 q ∨ (mAy g x q ∧ G 69 q = x)) ∧ (∀ n, n = 67 ∨ n = 68 → ∀ i, ¬ i = 5 * x + g 63 x → G n i = g n i)) (e : hE h g) (x1 : x < 3 * h 60 0) (hz : ∀ y : Int, 0 ≤ y → y < 3 * h 60 0 → 0 ≤ h 63 y ∧ h 63 y ≤ 5) (h5 : h 63 x < 5) (q : eQ x (h 63 x) (h 60 6) H G) (t : ∀ n, n = 67 ∨ n = 68 → G n (5 * x + h 63 x) = H n (5 * x + h 63 x)) : hE H G := by
  obtain ⟨i0, i1, i2, i3, i4⟩ := e
  have H60 : H 60 = h 60 := tH.1 60 (by omega) (by omega)
  have G60 : G 60 = g 60 := tG.1 60 (by omega) (by omega)
  have e63 : g 63 x = h 63 x := i2 63 (by omega) (by omega) x x0 x1
  unfold hE
  rw [H60, G60]
  refine ⟨i0, fun j hj => ?_, fun n n0 n1 y y0 y1 => ?_, fun n n0 n1 z z0 z1 => ?_, fun n hn y b y0 y1 b0 b1 => ?_⟩
  · rw [tG.2.1 j (by omega), tH.2.1 j (by omega)]
    exact i1 j hj
  · by_cases c : y = x
    · rw [c]; exact q.2.2.1 n n0 n1
    · rw [tG.2.2.1 n y n0 n1 c, tH.2.2.1 n y n0 n1 c]
      exact i2 n n0 n1 y y0 y1
  · obtain ⟨k1, k2, k3⟩ := q.2.2.2 z z0 z1
    rw [H60] at k3
    have g69 := i3 69 (by omega) (by omega) z z0 z1
    have m2 : mAy g x z ↔ mAy h x z := by
      unfold mAy
      rw [i0, e63, g69]
    by_cases c : n = 71
    · subst c
      by_cases y : H 69 z = x
      · exact k2 y
      · have y2 : ¬ h 69 z = x := fun w => by
          rcases fH.2.2.1 z with u | u
          · exact y (u.trans w)
          · exact y u.2
        rw [fG.2.1 z (by rw [g69]; exact y2), fH.2.1 z y2]
        exact i3 71 (by omega) (by omega) z z0 z1
    · have hn : nF n := by unfold nF; omega
      by_cases m : mAy h x z
      · exact (k3 m.1).1 n hn
      · rw [fG.1 n hn z (fun w => m (m2.mp w)), fH.1 n hn z m]
        exact i3 n n0 n1 z z0 z1
  · by_cases c : y = x
    · subst c
      rw [tH.2.2.2.1] at b1
      by_cases d : b = h 63 y
      · rw [d]; exact t n hn
      · rw [fG.2.2.2 n hn _ (by rw [e63]; omega), fH.2.2.2 n hn _ (by omega)]
        exact i4 n hn y b y0 y1 b0 (by omega)
    · rw [tH.2.2.1 63 y (by omega) (by omega) c] at b1
      have := hz y y0 y1
      have := hz x x0 x1
      rw [fG.2.2.2 n hn _ (by rw [e63]; omega), fH.2.2.2 n hn _ (by omega)]
      exact i4 n hn y b y0 y1 b0 b1
theorem hE_stop {x : Int} {h g : Nat → Int → Int} (hd : dZ h) (gd : dZ g) (e : hE h g) (x0 : 0 ≤ x) (x1 : x < 3 * h 60 0) (h5 : h 63 x < 5) : hE (sStop x h) (sStop x g) := by
  have o1 := hd.1.1.2.1
  obtain ⟨hx, ht, -⟩ := dZ_stop hd x0 x1 h5
  obtain ⟨gx, gt, -⟩ := dZ_stop gd (x := x) x0 (by rw [e.1]; exact x1) (by rw [e.2.2.1 63 (by omega) (by omega) x x0 x1]; exact h5)
  have h4 : zb (h 64 x) := by
    obtain ⟨⟨s0, s1⟩, ⟨t0, t1⟩, -⟩ := hx
    exact ⟨by omega, by omega⟩
  obtain ⟨q, t⟩ := eQ_stop hd.1 gd.1 h4 x0 (by omega) (hE_Q (a := h 63 x) e x0 x1)
  exact hE_two x0 ht gt sStop_fr sStop_fr e x1 (fun y y0 y1 => (hd.2 y y0 y1).1) h5 q t
