/-! the law: what stands between two questions -/
theorem zct_w9 {E : zE} {d : Nat} {M : zM} {vs : List Value} {σ : zS} {mc ms : Nat} {Q Q2 : zQ} (h : zCT E d M vs σ mc ms Q) (a : ∀ r s, Q r s → Q2 r s) : zCT E d M vs σ mc ms Q2 := by
  have e1 : ∀ a9 s o t, zQc E Q a9 s o t → zQc E Q2 a9 s o t := fun a9 s o t ⟨r, s9, z1, z2, z3⟩ => ⟨r, s9, z1, a _ _ z2, z3⟩
  intro p e A1 A2 A3 s m args below A4 A5 A6 A7
  obtain ⟨n9, o9, z1, z2, z3, z4, z5⟩ := h p e A1 A2 A3 s m args below A4 A5 A6 A7
  exact ⟨n9, o9, z1, z2, z3, e1 _ _ _ _ z4, z5⟩
def LI (L : Nat) (k : Nat → Nat × Nat) (h : Nat → Int → Int) (r : Nat → Int → Option Nat) (n : Nat) : Prop :=
  87 ≤ n ∧ (k 0 = (21, L) ∧ ∀ j, zb (h 0 j)) ∧ cS k h ∧ cSh k h r n ∧ (pS (h 60) ∧ cR 4 5 6 7 8 9 10 11 12 13 k h r n (h 60) (-4)) ∧ (h 59 17 = -4 ∧ h 59 18 = 3) ∧ dP h ∧ dKp h ∧ (h 3 3 = h 59 3 ∧ (h 3 3 = 0 ∨ h 3 3 = 1)) ∧ (h 3 3 = 1 → pS (h 61) ∧ cR 26 27 28 29 30 31 32 33 34 35 k h r n (h 61) (-4))
theorem cn8 {p : Int → Int} {w : Int} (hp : pS p) : cnP p w ≤ 8 := (cnP_in hp.1).2
theorem dKp_fr {h g : Nat → Int → Int} (c : dKp h) (e0 : g 80 = h 80) (e3 : g 83 = h 83) (e4 : g 84 = h 84) (e5 : g 85 = h 85) : dKp g := by
  unfold dKp
  rw [e0, e3, e4, e5]
  exact c
theorem dP_fr {h g : Nat → Int → Int} (c : dP h) (hp : pOK (g 60)) (e1 : g 69 = h 69) (e2 : g 71 = h 71) (e3 : g 72 = h 72) (e4 : g 59 17 = h 59 17) : dP g := by
  unfold dP
  rw [e1, e2, e3, e4]
  exact ⟨hp, c.2⟩
/-- a plan's change -/
theorem LI_p {k k2 : Nat → Nat × Nat} {h g : Nat → Int → Int} {r r2 : Nat → Int → Option Nat} {n n2 L : Nat} (I : LI L k h r n) (nn : n ≤ n2) (f : ∀ q, q < n → k2 q = k q ∧ (q < 4 ∨ q = 14 ∨ (24 < q ∧ q < 37) ∨ (54 < q ∧ ¬ q = 57 ∧ ¬ q = 58 ∧ ¬ q = 59 ∧ ¬ q = 60 ∧ ¬ q = 62 ∧ ¬ q = 76) → g q = h q) ∧ (¬ q = 5 → ¬ q = 16 → r2 q = r q)) (f9 : g 59 3 = h 59 3 ∧ g 59 17 = h 59 17 ∧ g 59 18 = h 59 18) (hS : pS (g 60)) (hR : cR 4 5 6 7 8 9 10 11 12 13 k2 g r2 n2 (g 60) (-4)) : LI L k2 g r2 n2 := by
  obtain ⟨i1, ⟨i2, i3⟩, i4, i5, ⟨i6, i7⟩, ⟨i8, i9⟩, i10, i11, ⟨i12, i13⟩, i14⟩ := I
  have e : ∀ q, (q < 4 ∨ q = 14 ∨ (24 < q ∧ q < 37) ∨ (54 < q ∧ ¬ q = 57 ∧ ¬ q = 58 ∧ ¬ q = 59 ∧ ¬ q = 60 ∧ ¬ q = 62 ∧ ¬ q = 76)) → q < 87 → g q = h q := fun q a b => (f q (by omega)).2.1 a
  refine ⟨by omega, ⟨(f 0 (by omega)).1.trans i2, by rw [e 0 (by omega) (by omega)]; exact i3⟩, cS_fr i4 (f 1 (by omega)).1 (f 2 (by omega)).1 (e 1 (by omega) (by omega)) (e 2 (by omega) (by omega)), ?_, ⟨hS, hR⟩, ⟨f9.2.1.trans i8, f9.2.2.trans i9⟩, dP_fr i10 hS.1 (e 69 (by omega) (by omega)) (e 71 (by omega) (by omega)) (e 72 (by omega) (by omega)) f9.2.1, dKp_fr i11 (e 80 (by omega) (by omega)) (e 83 (by omega) (by omega)) (e 84 (by omega) (by omega)) (e 85 (by omega) (by omega)), ?_, ?_⟩
  · exact cSh_fr i5 (fun a _ b => (f a b).1) (fun a z b => (f a b).2.1 (by omega)) (fun a z b => (f a b).2.2 (by omega) (by omega)) ((f 55 (by omega)).2.2 (by omega) (by omega)) ((f 56 (by omega)).2.2 (by omega) (by omega)) nn (fun a z b => e a (by omega) (by omega))
  · rw [e 3 (by omega) (by omega), f9.1]; exact ⟨i12, i13⟩
  · rw [e 3 (by omega) (by omega), e 61 (by omega) (by omega)]
    intro z
    obtain ⟨j1, j2⟩ := i14 z
    refine ⟨j1, cR_gen j2 (cn8 j1) (e 26 (by omega) (by omega)) (e 28 (by omega) (by omega)) (e 29 (by omega) (by omega)) (e 30 (by omega) (by omega)) (e 31 (by omega) (by omega)) (e 32 (by omega) (by omega)) (e 33 (by omega) (by omega)) (e 34 (by omega) (by omega)) (e 35 (by omega) (by omega)) ((f 27 (by omega)).2.2 (by omega) (by omega)) (fun v hv => (f v hv).1) (fun v hv z9 => (f v hv).2.1 (by omega)) nn⟩
/-- the class has worked, its plan stands -/
theorem LI_c {k k2 : Nat → Nat × Nat} {h g : Nat → Int → Int} {r r2 : Nat → Int → Option Nat} {n n2 L : Nat} (I : LI L k h r n) (nn : n ≤ n2) (f : ∀ q, q < n → k2 q = k q ∧ (q < 15 ∨ (24 < q ∧ q < 37) ∨ (54 < q ∧ ¬ q = 57 ∧ ¬ q = 58) → g q = h q) ∧ (¬ q = 16 → r2 q = r q)) : LI L k2 g r2 n2 := by
  have e : ∀ q, (q < 15 ∨ (24 < q ∧ q < 37) ∨ (54 < q ∧ ¬ q = 57 ∧ ¬ q = 58)) → q < 87 → g q = h q := fun q a b => (f q (by have := I.1; omega)).2.1 a
  have hn := I.1
  refine LI_p I nn (fun q hq => ⟨(f q hq).1, fun z => (f q hq).2.1 (by omega), fun _ z => (f q hq).2.2 z⟩) (by rw [e 59 (by omega) (by omega)]; exact ⟨rfl, rfl, rfl⟩) (by rw [e 60 (by omega) (by omega)]; exact I.2.2.2.2.1.1) ?_
  rw [e 60 (by omega) (by omega)]
  exact cR_gen I.2.2.2.2.1.2 (cn8 I.2.2.2.2.1.1) (e 4 (by omega) (by omega)) (e 6 (by omega) (by omega)) (e 7 (by omega) (by omega)) (e 8 (by omega) (by omega)) (e 9 (by omega) (by omega)) (e 10 (by omega) (by omega)) (e 11 (by omega) (by omega)) (e 12 (by omega) (by omega)) (e 13 (by omega) (by omega)) ((f 5 (by omega)).2.2 (by omega)) (fun v hv => (f v hv).1) (fun v hv z9 => (f v hv).2.1 (by omega)) nn
/-- the reference has worked, its plan stands -/
theorem LI_q {k : Nat → Nat × Nat} {h g : Nat → Int → Int} {r : Nat → Int → Option Nat} {n L : Nat} (I : LI L k h r n) (f : ∀ q, ¬ (q = 59 ∨ (62 ≤ q ∧ q ≤ 79)) → g q = h q) (f9 : g 59 3 = h 59 3 ∧ g 59 17 = h 59 17 ∧ g 59 18 = h 59 18) (d : dP g) : LI L k g r n := by
  obtain ⟨i1, ⟨i2, i3⟩, i4, i5, ⟨i6, i7⟩, ⟨i8, i9⟩, i10, i11, ⟨i12, i13⟩, i14⟩ := I
  refine ⟨i1, ⟨i2, by rw [f 0 (by omega)]; exact i3⟩, cS_fr i4 rfl rfl (f 1 (by omega)) (f 2 (by omega)), ?_, ?_, ⟨f9.2.1.trans i8, f9.2.2.trans i9⟩, d, dKp_fr i11 (f 80 (by omega)) (f 83 (by omega)) (f 84 (by omega)) (f 85 (by omega)), ?_, ?_⟩
  · exact cSh_fr i5 (fun _ _ _ => rfl) (fun a z _ => f a (by omega)) (fun _ _ _ => rfl) rfl rfl (Nat.le_refl _) (fun a z b => f a (by omega))
  · rw [f 60 (by omega)]
    exact ⟨i6, cR_gen i7 (cn8 i6) (f 4 (by omega)) (f 6 (by omega)) (f 7 (by omega)) (f 8 (by omega)) (f 9 (by omega)) (f 10 (by omega)) (f 11 (by omega)) (f 12 (by omega)) (f 13 (by omega)) rfl (fun _ _ => rfl) (fun v hv z9 => f v (by omega)) (Nat.le_refl _)⟩
  · rw [f 3 (by omega), f9.1]; exact ⟨i12, i13⟩
  · rw [f 3 (by omega), f 61 (by omega)]
    intro z
    obtain ⟨j1, j2⟩ := i14 z
    refine ⟨j1, cR_gen j2 (cn8 j1) (f 26 (by omega)) (f 28 (by omega)) (f 29 (by omega)) (f 30 (by omega)) (f 31 (by omega)) (f 32 (by omega)) (f 33 (by omega)) (f 34 (by omega)) (f 35 (by omega)) rfl (fun _ _ => rfl) (fun v hv z9 => f v (by omega)) (Nat.le_refl _)⟩
theorem LI_dL {k : Nat → Nat × Nat} {h g : Nat → Int → Int} {r : Nat → Int → Option Nat} {n L : Nat} (I : LI L k h r n) (d : dL h g) : LI L k g r n := LI_q I (fun q hq => d.1 q (by omega) (by omega)) ⟨d.2.1 3 (by omega), d.2.1 17 (by omega), d.2.1 18 (by omega)⟩ d.2.2
theorem LI_dE {k : Nat → Nat × Nat} {h g : Nat → Int → Int} {r : Nat → Int → Option Nat} {n L : Nat} (I : LI L k h r n) (d : dE h g) : LI L k g r n := LI_q I (fun q hq => d.1 q (by omega) (by omega)) ⟨d.2.1 3 (by omega), d.2.1 17 (by omega), d.2.1 18 (by omega)⟩ d.2.2
/-- a state of some kind, the script as before -/
def zA (L : Nat) (s0 : Int → Int) (P : (Nat → Nat × Nat) → (Nat → Int → Int) → (Nat → Int → Option Nat) → (Nat → Nat → Int64) → Nat → Prop) : zS → Prop := fun s => ∃ k2 g r2 l2 n2, s = zJ (k2, g, r2, l2, n2) ∧ (k2 0 = (21, L) ∧ g 0 = s0) ∧ P k2 g r2 l2 n2
/-- one question: the class answers x, and then the reference x, and all stands again -/
def zLP {α : Type} (mk : α → Value) (E : zE) (L : Nat) (M9 M8 : zM) (as : List Value) (k : Nat → Nat × Nat) (h : Nat → Int → Int) (r : Nat → Int → Option Nat) (l : Nat → Nat → Int64) (n : Nat) : Prop :=
  ∃ (x : α) (mc ms : Nat), (mc ≤ 34 ∧ ms ≤ 102) ∧ zCT E 10 M9 (.ref 3 :: as) (zJ (k, h, r, l, n)) mc ms (zVx (mk x) (zA L (h 0) (fun k2 g r2 l2 n2 => zCT E 10 M8 (.ref 59 :: as) (zJ (k2, g, r2, l2, n2)) 0 0 (zVx (mk x) (zA L (h 0) (fun k3 g3 r3 _ n3 => LI L k3 g3 r3 n3))))))
/-- of a question that leaves the class's plan as it is -/
def zFc (h : Nat → Int → Int) (r : Nat → Int → Option Nat) (k : Nat → Nat × Nat) (l : Nat → Nat → Int64) (n : Nat) : zS → Prop := fun s => ∃ g r9, s = zJ (k, g, r9, l, n) ∧ cT2 h g ∧ (∀ q, ¬ q = 16 → r9 q = r q)
theorem cT_2 {h g : Nat → Int → Int} (c : cT h g) : cT2 h g := fun q z => c q (by omega)
theorem cF_2 {h g : Nat → Int → Int} (c : cF h g) : cT2 h g := fun q z => c q (by omega)
theorem fc_V {α : Type} {mk : α → Value} {E : zE} {d : Nat} {M : zM} {vs : List Value} {k : Nat → Nat × Nat} {h : Nat → Int → Int} {r : Nat → Int → Option Nat} {l : Nat → Nat → Int64} {n : Nat} {x : α} {σ : zS} (c : zCT E d M vs σ 0 0 (zV (mk x) (zJ (k, h, r, l, n)))) : zCT E d M vs σ 0 0 (zVx (mk x) (zFc h r k l n)) := zct_w9 c fun _ _ ⟨a, b⟩ => ⟨a, h, r, b, fun _ _ => rfl, fun _ _ => rfl⟩
theorem fc_F {E : zE} {d : Nat} {M : zM} {vs : List Value} {k : Nat → Nat × Nat} {h : Nat → Int → Int} {r : Nat → Int → Option Nat} {l : Nat → Nat → Int64} {n : Nat} {x : Value} {σ : zS} (c : zCT E d M vs σ 0 0 (zVx x (zG k r l n (cF h)))) : zCT E d M vs σ 0 0 (zVx x (zFc h r k l n)) := zct_w9 c fun _ _ ⟨a, g, b, c⟩ => ⟨a, g, r, b, cF_2 c, fun _ _ => rfl⟩
theorem fc_T {E : zE} {d : Nat} {M : zM} {vs : List Value} {k : Nat → Nat × Nat} {h : Nat → Int → Int} {r : Nat → Int → Option Nat} {l : Nat → Nat → Int64} {n : Nat} {x : Value} {σ : zS} (c : zCT E d M vs σ 0 0 (zVx x (fun s => ∃ g r9, s = zJ (k, g, r9, l, n) ∧ cT h g ∧ (∀ q, ¬ q = 16 → r9 q = r q)))) : zCT E d M vs σ 0 0 (zVx x (zFc h r k l n)) := zct_w9 c fun _ _ ⟨a, g, r9, b, c, e⟩ => ⟨a, g, r9, b, cT_2 c, e⟩
/-- .. and the reference's -/
def zFq (k : Nat → Nat × Nat) (r : Nat → Int → Option Nat) (l : Nat → Nat → Int64) (n : Nat) (g : Nat → Int → Int) : zS → Prop := fun s => ∃ g2, s = zJ (k, g2, r, l, n) ∧ (g2 = g ∨ dL g g2)
theorem fq_V {α : Type} {mk : α → Value} {E : zE} {d : Nat} {M : zM} {vs : List Value} {k : Nat → Nat × Nat} {h : Nat → Int → Int} {r : Nat → Int → Option Nat} {l : Nat → Nat → Int64} {n : Nat} {x : α} {σ : zS} (c : zCT E d M vs σ 0 0 (zV (mk x) (zJ (k, h, r, l, n)))) : zCT E d M vs σ 0 0 (zVx (mk x) (zFq k r l n h)) := zct_w9 c fun _ _ ⟨a, b⟩ => ⟨a, h, b, Or.inl rfl⟩
theorem dE_L {h g : Nat → Int → Int} (c : dE h g) : dL h g := ⟨fun n a b => c.1 n (by omega) b, fun j hj => c.2.1 j (by omega), c.2.2⟩
theorem fq_E {E : zE} {d : Nat} {M : zM} {vs : List Value} {k : Nat → Nat × Nat} {h : Nat → Int → Int} {r : Nat → Int → Option Nat} {l : Nat → Nat → Int64} {n : Nat} {x : Value} {σ : zS} (c : zCT E d M vs σ 0 0 (zVx x (zG k r l n (dE h)))) : zCT E d M vs σ 0 0 (zVx x (zFq k r l n h)) := zct_w9 c fun _ _ ⟨a, g, b, c⟩ => ⟨a, g, b, Or.inr (dE_L c)⟩
theorem fq_L {E : zE} {d : Nat} {M : zM} {vs : List Value} {k : Nat → Nat × Nat} {h : Nat → Int → Int} {r : Nat → Int → Option Nat} {l : Nat → Nat → Int64} {n : Nat} {x : Value} {σ : zS} (c : zCT E d M vs σ 0 0 (zVx x (zG k r l n (dL h)))) : zCT E d M vs σ 0 0 (zVx x (zFq k r l n h)) := zct_w9 c fun _ _ ⟨a, g, b, c⟩ => ⟨a, g, b, Or.inr c⟩
/-- a question without consequences -/
theorem lp_q {α : Type} {mk : α → Value} {E : zE} {L : Nat} {M9 M8 : zM} {as : List Value} {k : Nat → Nat × Nat} {h : Nat → Int → Int} {r : Nat → Int → Option Nat} {l : Nat → Nat → Int64} {n : Nat} (I : LI L k h r n) (x : α) (c : zCT E 10 M9 (.ref 3 :: as) (zJ (k, h, r, l, n)) 0 0 (zVx (mk x) (zFc h r k l n)))
    (q : ∀ (g : Nat → Int → Int) (r9 : Nat → Int → Option Nat), LI L k g r9 n → (∀ q, (q < 15 ∨ (24 < q ∧ q < 37) ∨ (54 < q ∧ ¬ q = 57 ∧ ¬ q = 58)) → g q = h q) → zCT E 10 M8 (.ref 59 :: as) (zJ (k, g, r9, l, n)) 0 0 (zVx (mk x) (zFq k r9 l n g))) : zLP mk E L M9 M8 as k h r l n := by
  refine ⟨x, 0, 0, ⟨by omega, by omega⟩, zct_w9 c fun _ s z => ?_⟩
  obtain ⟨z1, g, r9, rfl, z2, z3⟩ := z
  have I2 : LI L k g r9 n := LI_c I (Nat.le_refl _) (fun q hq => ⟨rfl, z2 q, z3 q⟩)
  refine ⟨z1, k, g, r9, l, n, rfl, ⟨I.2.1.1, z2 0 (by omega)⟩, zct_w9 (q g r9 I2 z2) fun _ s y => ?_⟩
  obtain ⟨y1, g2, rfl, y2⟩ := y
  have e0 : g 0 = h 0 := z2 0 (by omega)
  rcases y2 with rfl | y2
  · exact ⟨y1, k, g2, r9, l, n, rfl, ⟨I.2.1.1, e0⟩, I2⟩
  · exact ⟨y1, k, g2, r9, l, n, rfl, ⟨I.2.1.1, (y2.1 0 (by omega) (by omega)).trans e0⟩, LI_dL I2 y2⟩
