/-! An event changes cells of its own train and stop only, and hangs on such cells only -/
def nF (n : Nat) : Prop := n = 69 ∨ n = 70 ∨ n = 72 ∨ n = 73 ∨ n = 74
theorem sTry_fr {x p q : Int} {h : Nat → Int → Int} {n : Nat} (hn : nF n) (hq : ¬ q = p) : sTry x p h n q = h n q := by
  unfold nF at hn
  have z : ∀ c : Prop, [Decidable c] → (if c then zv h 74 p (h 74 p + 1) else h) n q = h n q := fun c _ => by
    split
    · exact zv_ne hq
    · rfl
  unfold sTry
  split
  · rw [zv_other (by omega), zv_other (by omega), zv_ne hq, zv_ne hq]
  · split
    · exact z _
    · rw [zv_ne hq, zv_ne hq]
      exact z _
theorem sTry_71 {x p : Int} {h : Nat → Int → Int} : sTry x p h 71 = h 71 := by
  have z : ∀ c : Prop, [Decidable c] → (if c then zv h 74 p (h 74 p + 1) else h) 71 = h 71 := fun c _ => by
    split
    · exact zv_other (by omega)
    · rfl
  unfold sTry
  split
  · rw [zv_other (by omega), zv_other (by omega), zv_other (by omega), zv_other (by omega)]
  · split
    · exact z _
    · rw [zv_other (by omega), zv_other (by omega)]
      exact z _
theorem sTry_69 {x p q : Int} {h : Nat → Int → Int} : sTry x p h 69 q = h 69 q ∨ (q = p ∧ sTry x p h 69 q = x) := by
  have z : ∀ c : Prop, [Decidable c] → (if c then zv h 74 p (h 74 p + 1) else h) 69 = h 69 := fun c _ => by
    split
    · exact zv_other (by omega)
    · rfl
  unfold sTry
  split
  · rw [zv_other (by omega), zv_other (by omega), zv_other (by omega)]
    by_cases e : q = p
    · rw [e, zv_is]
      exact Or.inr ⟨rfl, rfl⟩
    · exact Or.inl (zv_ne e)
  · split
    · exact Or.inl (congrFun (z _) q)
    · rw [zv_other (by omega), zv_other (by omega)]
      exact Or.inl (congrFun (z _) q)
theorem sTry_60 {x p : Int} {h : Nat → Int → Int} : sTry x p h 60 = h 60 ∧ sTry x p h 64 = h 64 := by
  have z : ∀ (n : Nat) (c : Prop), ¬ n = 74 → [Decidable c] → (if c then zv h 74 p (h 74 p + 1) else h) n = h n := fun n c hn _ => by
    split
    · exact zv_other hn
    · rfl
  unfold sTry
  split
  · exact ⟨by rw [zv_other (by omega), zv_other (by omega), zv_other (by omega), zv_other (by omega)], by rw [zv_other (by omega), zv_other (by omega), zv_other (by omega), zv_other (by omega)]⟩
  · split
    · exact ⟨z _ _ (by omega), z _ _ (by omega)⟩
    · exact ⟨by rw [zv_other (by omega), zv_other (by omega)]; exact z _ _ (by omega), by rw [zv_other (by omega), zv_other (by omega)]; exact z _ _ (by omega)⟩
theorem sTry_n {x p : Int} {h : Nat → Int → Int} {n : Nat} (hn : n < 65 ∨ (65 < n ∧ n < 69) ∨ n = 71 ∨ 74 < n) (h59 : ¬ n = 59 := by omega) : sTry x p h n = h n := by
  have z : ∀ (c : Prop), [Decidable c] → (if c then zv h 74 p (h 74 p + 1) else h) n = h n := fun c _ => by
    split
    · exact zv_other (by omega)
    · rfl
  unfold sTry
  split
  · rw [zv_other (by omega), zv_other (by omega), zv_other (by omega), zv_other (by omega)]
  · split
    · exact z _
    · rw [zv_other (by omega), zv_other (by omega)]
      exact z _
/-- tries one behind the other -/
abbrev sTz (x : Int) (a : Int → Int) (g : Nat → Int → Int) (c : Nat) : Nat → Int → Int := zfo (fun j s => sTry x (a j) s) g c
theorem sTz_fr {x q : Int} {a : Int → Int} {g : Nat → Int → Int} {n : Nat} (hn : nF n) : ∀ c : Nat, (∀ j : Int, 0 ≤ j → j < (c : Int) → ¬ q = a j) → sTz x a g c n q = g n q
  | 0, _ => rfl
  | c + 1, hj => by
    have i := sTz_fr (x := x) (q := q) (a := a) (g := g) hn c (fun j j0 j1 => hj j j0 (by omega))
    show sTry x (a c) (sTz x a g c) n q = _
    rw [sTry_fr hn (hj c (by omega) (by omega)), i]
theorem sTz_71 {x : Int} {a : Int → Int} {g : Nat → Int → Int} : ∀ c : Nat, sTz x a g c 71 = g 71 ∧ sTz x a g c 60 = g 60 ∧ sTz x a g c 64 = g 64
  | 0 => ⟨rfl, rfl, rfl⟩
  | c + 1 => by
    have i := sTz_71 (x := x) (a := a) (g := g) c
    show sTry x (a c) (sTz x a g c) 71 = _ ∧ sTry x (a c) (sTz x a g c) 60 = _ ∧ sTry x (a c) (sTz x a g c) 64 = _
    rw [sTry_71, sTry_60.1, sTry_60.2]
    exact i
theorem sTz_69 {x q : Int} {a : Int → Int} {g : Nat → Int → Int} : ∀ c : Nat, sTz x a g c 69 q = g 69 q ∨ sTz x a g c 69 q = x
  | 0 => Or.inl rfl
  | c + 1 => by
    have i := sTz_69 (x := x) (q := q) (a := a) (g := g) c
    show sTry x (a c) (sTz x a g c) 69 q = _ ∨ sTry x (a c) (sTz x a g c) 69 q = _
    rcases sTry_69 (x := x) (p := a c) (q := q) (h := sTz x a g c) with e | e
    · rw [e]; exact i
    · exact Or.inr e.2
theorem sGO_fr {x q : Int} {h : Nat → Int → Int} (hq : ¬ h 69 q = x) : ∀ c : Nat, sGO x h c 69 = h 69 ∧ sGO x h c 71 q = h 71 q ∧ (∀ n, n = 70 ∨ n = 72 ∨ n = 73 ∨ n = 74 ∨ n = 60 ∨ n = 63 ∨ n = 64 ∨ n = 66 ∨ n = 67 ∨ n = 68 → sGO x h c n = h n)
  | 0 => ⟨rfl, rfl, fun _ _ => rfl⟩
  | c + 1 => by
    obtain ⟨i1, i2, i3⟩ := sGO_fr (x := x) (q := q) (h := h) hq c
    show sGO1 x c (sGO x h c) 69 = _ ∧ sGO1 x c (sGO x h c) 71 q = _ ∧ ∀ n, _ → sGO1 x c (sGO x h c) n = _
    generalize sGO x h c = g at *
    unfold sGO1
    split
    · rename_i w
      refine ⟨?_, ?_, fun n hn => ?_⟩
      · rw [zv_other (by omega), zv_other (by omega), zv_other (by omega)]
        exact i1
      · rw [zv_other (by omega), zv_other (by omega), zv_ne (fun e => hq (by rw [e, ← i1]; exact w.1))]
        exact i2
      · rw [zv_other (by omega), zv_other (by omega), zv_other (by omega)]
        exact i3 n hn
    · exact ⟨i1, i2, i3⟩
theorem sGO_69 {x : Int} {h : Nat → Int → Int} : ∀ c : Nat, sGO x h c 69 = h 69 ∧ (∀ n, n = 70 ∨ n = 72 ∨ n = 73 ∨ n = 74 ∨ n = 60 ∨ n = 63 ∨ n = 64 ∨ n = 66 ∨ n = 67 ∨ n = 68 → sGO x h c n = h n)
  | 0 => ⟨rfl, fun _ _ => rfl⟩
  | c + 1 => by
    obtain ⟨i1, i3⟩ := sGO_69 (x := x) (h := h) c
    show sGO1 x c (sGO x h c) 69 = _ ∧ ∀ n, _ → sGO1 x c (sGO x h c) n = _
    generalize sGO x h c = g at *
    unfold sGO1
    split
    · refine ⟨?_, fun n hn => ?_⟩
      · rw [zv_other (by omega), zv_other (by omega), zv_other (by omega)]
        exact i1
      · rw [zv_other (by omega), zv_other (by omega), zv_other (by omega)]
        exact i3 n hn
    · exact ⟨i1, i3⟩
theorem sAs_mem {x : Int} {h : Nat → Int → Int} : ∀ c : Nat, ∀ j : Int, 0 ≤ j → j < ((sAs x h c).1 : Int) → (0 ≤ (sAs x h c).2 j ∧ (sAs x h c).2 j < c) ∧ ¬ (sAs x h c).2 j = h 59 17 ∧ h 69 ((sAs x h c).2 j) < 0 ∧ pFr (h 60) ((sAs x h c).2 j) = h 63 x
  | 0 => fun j h0 h1 => by simp only [sAs, zfo] at h1; omega
  | c + 1 => by
    have i2 := sAs_mem (x := x) (h := h) c
    show ∀ j : Int, 0 ≤ j → j < ((sAs1 x h c (sAs x h c)).1 : Int) → (0 ≤ (sAs1 x h c (sAs x h c)).2 j ∧ (sAs1 x h c (sAs x h c)).2 j < ((c + 1 : Nat) : Int)) ∧ ¬ (sAs1 x h c (sAs x h c)).2 j = h 59 17 ∧ h 69 ((sAs1 x h c (sAs x h c)).2 j) < 0 ∧ pFr (h 60) ((sAs1 x h c (sAs x h c)).2 j) = h 63 x
    unfold sAs1
    split
    · rename_i w
      intro j h0 h1
      have h1 : j < ((sAs x h c).1 + 1 : Nat) := h1
      show (0 ≤ insA (sAs x h c).2 (sAs x h c).1 c (zpos (h 60) (sAs x h c).2 c (sAs x h c).1) j ∧ insA (sAs x h c).2 (sAs x h c).1 c (zpos (h 60) (sAs x h c).2 c (sAs x h c).1) j < _) ∧ ¬ insA (sAs x h c).2 (sAs x h c).1 c (zpos (h 60) (sAs x h c).2 c (sAs x h c).1) j = _ ∧ h 69 (insA (sAs x h c).2 (sAs x h c).1 c (zpos (h 60) (sAs x h c).2 c (sAs x h c).1) j) < 0 ∧ pFr (h 60) (insA (sAs x h c).2 (sAs x h c).1 c (zpos (h 60) (sAs x h c).2 c (sAs x h c).1) j) = _
      have := zpos_le (p := h 60) (a := (sAs x h c).2) (t := c) (sAs x h c).1
      unfold insA
      split
      · exact ⟨⟨by omega, by omega⟩, w.1, w.2.1, w.2.2⟩
      · unfold shA
        split
        · have := i2 (j - 1) (by omega) (by omega)
          exact ⟨⟨this.1.1, by omega⟩, this.2⟩
        · have := i2 j (by omega) (by omega)
          exact ⟨⟨this.1.1, by omega⟩, this.2⟩
    · intro j h0 h1
      have := i2 j h0 h1
      exact ⟨⟨this.1.1, by omega⟩, this.2⟩
/-- who may get on at x: from there, not on yet -/
abbrev mAy (h : Nat → Int → Int) (x q : Int) : Prop := pFr (h 60) q = h 63 x ∧ h 69 q < 0
theorem sS2_fr {x : Int} {h : Nat → Int → Int} : sS2 x h 69 = h 69 ∧ (∀ n, n = 70 ∨ n = 72 ∨ n = 73 ∨ n = 74 ∨ n = 60 ∨ n = 63 ∨ n = 64 ∨ n = 66 ∨ n = 68 → sS2 x h n = h n) ∧ (∀ q, ¬ h 69 q = x → sS2 x h 71 q = h 71 q) := by
  have a := sGO_69 (x := x) (h := zv (zv h 59 19 0) 67 (5 * x + h 63 x) (h 64 x)) (nP h)
  refine ⟨?_, fun n hn => ?_, fun q hq => ?_⟩
  · show sGO x _ _ 69 = _
    rw [a.1, zv_other (by omega), zv_other (by omega)]
  · show sGO x _ _ n = _
    rw [a.2 n (by omega), zv_other (by omega), zv_other (by omega)]
  · have b := (sGO_fr (x := x) (q := q) (h := zv (zv h 59 19 0) 67 (5 * x + h 63 x) (h 64 x)) (by rw [zv_other (by omega), zv_other (by omega)]; exact hq) (nP h)).2.1
    show sGO x _ _ 71 q = _
    rw [b, zv_other (by omega), zv_other (by omega)]
theorem sS4_fr {x : Int} {h : Nat → Int → Int} : (∀ n, nF n → ∀ q, ¬ mAy h x q → sS4 x h n q = h n q) ∧ (∀ q, ¬ h 69 q = x → sS4 x h 71 q = h 71 q) ∧ (∀ q, sS4 x h 69 q = h 69 q ∨ (mAy h x q ∧ sS4 x h 69 q = x)) ∧ (∀ q, sS4 x h 71 q = sS2 x h 71 q) := by
  obtain ⟨b1, b2, b3⟩ := sS2_fr (x := x) (h := h)
  have e2 : ∀ n, nF n → sS2 x h n = h n := fun n hn => by
    unfold nF at hn
    by_cases e : n = 69
    · rw [e]; exact b1
    · exact b2 n (by omega)
  have mem := sAs_mem (x := x) (h := sS2 x h) (nP h)
  rw [b1, b2 60 (by omega), b2 63 (by omega)] at mem
  unfold sS4
  by_cases c : h 63 x < 4
  · rw [if_pos c]
    have e3 : ∀ n, ¬ n = 75 → sS3 x h n = sS2 x h n := fun n hn => zar_other hn
    have e75 : sS3 x h 75 = (sAs x (sS2 x h) (nP h)).2 := zar_at
    have ez : sTa x (sS3 x h) (sAs x (sS2 x h) (nP h)).1 = sTz x (sS3 x h 75) (sS3 x h) (sAs x (sS2 x h) (nP h)).1 := rfl
    rw [ez, e75]
    have no : ∀ q, ¬ mAy h x q → ∀ j : Int, 0 ≤ j → j < ((sAs x (sS2 x h) (nP h)).1 : Int) → ¬ q = (sAs x (sS2 x h) (nP h)).2 j := fun q hq j j0 j1 e => by
      have := mem j j0 j1
      exact hq (by rw [e]; exact ⟨this.2.2.2, this.2.2.1⟩)
    refine ⟨fun n hn q hq => ?_, fun q hq => ?_, fun q => ?_, fun q => ?_⟩
    · have hn2 := hn
      unfold nF at hn2
      rw [sTz_fr hn _ (no q hq), e3 n (by omega), e2 n hn]
    · rw [(sTz_71 _).1, e3 71 (by omega), b3 q hq]
    · rcases sTz_69 (x := x) (q := q) (a := (sAs x (sS2 x h) (nP h)).2) (g := sS3 x h) (sAs x (sS2 x h) (nP h)).1 with e | e
      · rw [e, e3 69 (by omega), b1]
        exact Or.inl rfl
      · by_cases m : mAy h x q
        · exact Or.inr ⟨m, e⟩
        · rw [sTz_fr (Or.inl rfl) _ (no q m), e3 69 (by omega), b1]
          exact Or.inl rfl
    · rw [(sTz_71 _).1, e3 71 (by omega)]
  · rw [if_neg c]
    exact ⟨fun n hn q _ => by rw [e2 n hn], b3, fun q => by rw [b1]; exact Or.inl rfl, fun _ => rfl⟩
theorem sS7_n {x : Int} {h : Nat → Int → Int} {n : Nat} (hn : n = 69 ∨ n = 70 ∨ n = 71 ∨ n = 72 ∨ n = 73 ∨ n = 74) : sStop x h n = sS4 x h n := by
  unfold sStop
  rw [zv_other (by omega)]
  unfold sS7
  split
  · rw [zv_other (by omega)]
    unfold sS6 sS5
    rw [zv_other (by omega), zv_other (by omega)]
  · unfold sS6 sS5
    rw [zv_other (by omega), zv_other (by omega)]
theorem sStop_fr {x : Int} {h : Nat → Int → Int} : (∀ n, nF n → ∀ q, ¬ mAy h x q → sStop x h n q = h n q) ∧ (∀ q, ¬ h 69 q = x → sStop x h 71 q = h 71 q) ∧ (∀ q, sStop x h 69 q = h 69 q ∨ (mAy h x q ∧ sStop x h 69 q = x)) ∧ (∀ n, n = 67 ∨ n = 68 → ∀ i, ¬ i = 5 * x + h 63 x → sStop x h n i = h n i) := by
  obtain ⟨a1, a2, a3, -⟩ := sS4_fr (x := x) (h := h)
  refine ⟨fun n hn q hq => ?_, fun q hq => ?_, fun q => ?_, fun n hn i hi => ?_⟩
  · unfold nF at hn
    rw [sS7_n (by omega)]
    exact a1 n hn q hq
  · rw [sS7_n (by omega)]
    exact a2 q hq
  · rw [sS7_n (by omega)]
    exact a3 q
  · unfold sStop
    rw [zv_other (by omega)]
    have e6 : sS6 x h n i = h n i := by
      unfold sS6
      rw [zv_ne hi]
      unfold sS5
      rw [zv_other (by omega)]
      have e2 : sS2 x h n i = h n i := by
        have a := (sGO_69 (x := x) (h := zv (zv h 59 19 0) 67 (5 * x + h 63 x) (h 64 x)) (nP h)).2 n (by omega)
        show sGO x _ _ n i = _
        rw [a, zv_ne hi, zv_other (by omega)]
      unfold sS4
      split
      · have z : ∀ c : Nat, sTz x (sS3 x h 75) (sS3 x h) c n = sS3 x h n := fun c => by
          induction c with
          | zero => rfl
          | succ c ih =>
            show sTry x _ (sTz x (sS3 x h 75) (sS3 x h) c) n = _
            rw [sTry_n (by omega), ih]
        have e3 : sS3 x h n = sS2 x h n := zar_other (by omega)
        show sTz x (sS3 x h 75) (sS3 x h) _ n i = _
        rw [z, e3, e2]
      · exact e2
    unfold sS7
    split
    · rw [zv_other (by omega)]
      exact e6
    · exact e6
/-! what an event hangs on -/
/-- alike for an event of x at the stop a -/
def eQ (x a np : Int) (h g : Nat → Int → Int) : Prop :=
  g 60 = h 60 ∧ (∀ j : Int, j = 17 ∨ j = 19 → g 59 j = h 59 j) ∧ (∀ n : Nat, 63 ≤ n → n ≤ 66 → g n x = h n x) ∧
  (∀ q : Int, 0 ≤ q → q < np → (g 69 q = x ↔ h 69 q = x) ∧ (h 69 q = x → g 71 q = h 71 q) ∧ (pFr (h 60) q = a → (∀ n : Nat, nF n → g n q = h n q) ∧ (h 69 q < 0 → g 71 q = h 71 q)))
theorem eQ_GO {x a np : Int} {h g : Nat → Int → Int} (x0 : 0 ≤ x) (e : eQ x a np h g) : ∀ c : Nat, (c : Int) ≤ np → eQ x a np (sGO x h c) (sGO x g c)
  | 0, _ => e
  | c + 1, hc => by
    have i := eQ_GO x0 e c (by omega)
    show eQ x a np (sGO1 x c (sGO x h c)) (sGO1 x c (sGO x g c))
    generalize sGO x h c = h9 at *
    generalize sGO x g c = g9 at *
    obtain ⟨i0, i1, i2, i3⟩ := i
    obtain ⟨j1, j2, j3⟩ := i3 c (by omega) (by omega)
    unfold sGO1
    rw [i0, i2 63 (by omega) (by omega), i2 64 (by omega) (by omega), i2 65 (by omega) (by omega), i1 19 (by omega)]
    by_cases w : h9 69 c = x ∧ h9 71 c < 0 ∧ pOf (h9 60) c = h9 63 x
    · rw [if_pos w, if_pos ⟨j1.mpr w.1, by rw [j2 w.1]; exact w.2.1, w.2.2⟩]
      refine ⟨?_, fun j hj => ?_, fun n n0 n1 => ?_, fun q q0 q1 => ?_⟩
      · rw [zv_other (by omega), zv_other (by omega), zv_other (by omega), zv_other (by omega), zv_other (by omega), zv_other (by omega)]
        exact i0
      · by_cases c9 : j = 19
        · rw [c9, zv_is, zv_is]
        · rw [zv_at c9, zv_at c9, zv_other (by omega), zv_other (by omega), zv_other (by omega), zv_other (by omega)]
          exact i1 j hj
      · have es : ∀ (f : Nat → Int → Int) (M V W : Int), zv (zv (zv f 71 c M) 65 x V) 59 19 W n x = if n = 65 then V else f n x := fun f M V W => by
          rw [zv_other (by omega)]
          by_cases c9 : n = 65
          · rw [if_pos c9, c9, zv_is]
          · rw [if_neg c9, zv_other c9, zv_other (by omega)]
        rw [es, es]
        split
        · rfl
        · exact i2 n n0 n1
      · obtain ⟨k1, k2, k3⟩ := i3 q q0 q1
        have e71 : ∀ f : Nat → Int → Int, zv (zv (zv f 71 c (h9 64 x)) 65 x (h9 65 x - pPl (h9 60) c)) 59 19 (h9 59 19 + 1) 71 q = if q = c then h9 64 x else f 71 q := fun f => by
          rw [zv_other (by omega), zv_other (by omega), zv_eq]
          by_cases y : q = c
          · rw [if_pos ⟨rfl, y⟩, if_pos y]
          · rw [if_neg (fun z => y z.2), if_neg y]
        have eo : ∀ (f : Nat → Int → Int) (n : Nat), nF n → zv (zv (zv f 71 c (h9 64 x)) 65 x (h9 65 x - pPl (h9 60) c)) 59 19 (h9 59 19 + 1) n q = f n q := fun f n hn => by
          unfold nF at hn
          rw [zv_other (by omega), zv_other (by omega), zv_other (by omega)]
        have e60 : zv (zv (zv h9 71 c (h9 64 x)) 65 x (h9 65 x - pPl (h9 60) c)) 59 19 (h9 59 19 + 1) 60 = h9 60 := by rw [zv_other (by omega), zv_other (by omega), zv_other (by omega)]
        rw [e71, e71, eo _ 69 (Or.inl rfl), eo _ 69 (Or.inl rfl), e60]
        refine ⟨k1, fun z => ?_, fun z => ⟨fun n hn => ?_, fun z2 => ?_⟩⟩
        · by_cases y : q = c
          · rw [if_pos y, if_pos y]
          · rw [if_neg y, if_neg y]; exact k2 z
        · rw [eo _ n hn, eo _ n hn]; exact (k3 z).1 n hn
        · by_cases y : q = c
          · rw [if_pos y, if_pos y]
          · rw [if_neg y, if_neg y]; exact (k3 z).2 z2
    · rw [if_neg w, if_neg (fun z => w ⟨j1.mp z.1, by rw [← j2 (j1.mp z.1)]; exact z.2.1, z.2.2⟩)]
      exact ⟨i0, i1, i2, i3⟩
theorem eQ_As {x a np : Int} {h g : Nat → Int → Int} (e : eQ x a np h g) (ha : h 63 x = a) : ∀ c : Nat, (c : Int) ≤ np → (sAs x h c).1 = (sAs x g c).1 ∧ (∀ j : Int, 0 ≤ j → j < ((sAs x h c).1 : Int) → (sAs x h c).2 j = (sAs x g c).2 j)
  | 0, _ => ⟨rfl, fun j h0 h1 => by simp only [sAs, zfo] at h1; omega⟩
  | c + 1, hc => by
    obtain ⟨i1, i2⟩ := eQ_As e ha c (by omega)
    obtain ⟨-, -, k3⟩ := e.2.2.2 c (by omega) (by omega)
    show (sAs1 x h c (sAs x h c)).1 = (sAs1 x g c (sAs x g c)).1 ∧ (∀ j : Int, 0 ≤ j → j < ((sAs1 x h c (sAs x h c)).1 : Int) → (sAs1 x h c (sAs x h c)).2 j = (sAs1 x g c (sAs x g c)).2 j)
    generalize sAs x h c = u at *
    generalize sAs x g c = v at *
    obtain ⟨n9, a9⟩ := u
    obtain ⟨m9, b9⟩ := v
    dsimp only at i1 i2
    subst i1
    unfold sAs1
    dsimp only
    rw [e.1, e.2.2.1 63 (by omega) (by omega), e.2.1 17 (by omega), ← zpos_cg n9 i2]
    by_cases f : pFr (h 60) c = h 63 x
    · rw [(k3 (f.trans ha)).1 69 (Or.inl rfl)]
      split
      · refine ⟨rfl, fun j j0 j1 => ?_⟩
        dsimp only at j1 ⊢
        have lz := zpos_le (p := h 60) (a := a9) (t := (c : Int)) n9
        generalize zpos (h 60) a9 (c : Int) n9 = k9 at *
        unfold insA
        by_cases z : j = (k9 : Int)
        · rw [if_pos z, if_pos z]
        · rw [if_neg z, if_neg z]
          unfold shA
          by_cases z2 : (k9 : Int) < j ∧ j ≤ n9
          · rw [if_pos z2, if_pos z2]
            exact i2 _ (by omega) (by omega)
          · rw [if_neg z2, if_neg z2]
            by_cases z3 : j < n9
            · exact i2 _ (by omega) z3
            · exact absurd z2 (by omega)
      · exact ⟨rfl, i2⟩
    · rw [if_neg (fun z => f z.2.2), if_neg (fun z => f z.2.2)]
      exact ⟨rfl, i2⟩
theorem eQ_Try {x a np p : Int} {h g : Nat → Int → Int} (x0 : 0 ≤ x) (p0 : 0 ≤ p) (p1 : p < np) (e : eQ x a np h g) (hf : pFr (h 60) p = a) (h69 : h 69 p < 0 ∨ h 69 p = x) : eQ x a np (sTry x p h) (sTry x p g) := by
  obtain ⟨i0, i1, i2, i3⟩ := e
  obtain ⟨j1, j2, j3⟩ := i3 p p0 p1
  obtain ⟨j4, j5⟩ := j3 hf
  have j71 : g 71 p = h 71 p := by
    rcases h69 with z | z
    · exact j5 z
    · exact j2 z
  have fin : ∀ h2 g2 : Nat → Int → Int, g2 60 = g 60 → h2 60 = h 60 → (∀ j : Int, j = 17 ∨ j = 19 → g2 59 j = h2 59 j) → (∀ n : Nat, 63 ≤ n → n ≤ 66 → g2 n x = h2 n x) → g2 71 = g 71 → h2 71 = h 71 → (∀ n, nF n → g2 n p = h2 n p) → (∀ n, nF n → ∀ q, ¬ q = p → g2 n q = g n q ∧ h2 n q = h n q) → eQ x a np h2 g2 := fun h2 g2 a1 a2 a3 a4 a5 a6 a7 a8 => by
    refine ⟨by rw [a1, a2]; exact i0, a3, a4, fun q q0 q1 => ?_⟩
    obtain ⟨k1, k2, k3⟩ := i3 q q0 q1
    rw [a5, a6, a2]
    by_cases y : q = p
    · subst y
      have z69 := a7 69 (Or.inl rfl)
      exact ⟨by rw [z69], fun _ => j71, fun _ => ⟨fun n hn => a7 n hn, fun _ => j71⟩⟩
    · obtain ⟨z1, z2⟩ := a8 69 (Or.inl rfl) q y
      rw [z1, z2]
      exact ⟨k1, k2, fun z => ⟨fun n hn => by rw [(a8 n hn q y).1, (a8 n hn q y).2]; exact (k3 z).1 n hn, (k3 z).2⟩⟩
  have f0 : ∀ f : Nat → Int → Int, ∀ n, nF n → ∀ q, ¬ q = p → sTry x p f n q = f n q := fun f n hn q hq => sTry_fr hn hq
  refine fin _ _ sTry_60.1 sTry_60.1 ?_ ?_ sTry_71 sTry_71 ?_ (fun n hn q hq => ⟨f0 g n hn q hq, f0 h n hn q hq⟩)
  all_goals
    unfold sTry
    rw [i0, i2 64 (by omega) (by omega), i2 65 (by omega) (by omega), j4 72 (by unfold nF; omega), j4 73 (by unfold nF; omega), j4 74 (by unfold nF; omega), i1 19 (by omega)]
  · intro j hj
    have z : ∀ c : Prop, [Decidable c] → (if c then zv g 74 p (h 74 p + 1) else g) 59 j = (if c then zv h 74 p (h 74 p + 1) else h) 59 j := fun c _ => by
      split
      · rw [zv_other (by omega), zv_other (by omega)]; exact i1 j hj
      · exact i1 j hj
    have es2 : ∀ (f : Nat → Int → Int) (M V : Int), zv (zv f 72 p M) 73 p V 59 j = f 59 j := fun f M V => by
      rw [zv_other (by omega), zv_other (by omega)]
    split
    · by_cases c9 : j = 19
      · rw [c9, zv_is, zv_is]
      · rw [zv_at c9, zv_at c9, zv_other (by omega), zv_other (by omega), zv_other (by omega), zv_other (by omega), zv_other (by omega), zv_other (by omega)]
        exact i1 j hj
    · split
      · exact z _
      · rw [es2, es2]
        exact z _
  · intro n n0 n1
    have z : ∀ c : Prop, [Decidable c] → (if c then zv g 74 p (h 74 p + 1) else g) n x = (if c then zv h 74 p (h 74 p + 1) else h) n x := fun c _ => by
      split
      · rw [zv_other (by omega), zv_other (by omega)]; exact i2 n n0 n1
      · exact i2 n n0 n1
    have es : ∀ (f : Nat → Int → Int) (M V W : Int), zv (zv (zv (zv f 69 p x) 70 p M) 65 x V) 59 19 W n x = if n = 65 then V else f n x := fun f M V W => by
      rw [zv_other (by omega)]
      by_cases c9 : n = 65
      · rw [if_pos c9, c9, zv_is]
      · rw [if_neg c9, zv_other c9, zv_other (by omega), zv_other (by omega)]
    have es2 : ∀ (f : Nat → Int → Int) (M V : Int), zv (zv f 72 p M) 73 p V n x = f n x := fun f M V => by
      rw [zv_other (by omega), zv_other (by omega)]
    split
    · rw [es, es]
      split
      · rfl
      · exact i2 n n0 n1
    · split
      · exact z _
      · rw [es2, es2]
        exact z _
  · intro n hn
    have hn2 := hn
    unfold nF at hn2
    have z : ∀ c : Prop, [Decidable c] → (if c then zv g 74 p (h 74 p + 1) else g) n p = (if c then zv h 74 p (h 74 p + 1) else h) n p := fun c _ => by
      split
      · by_cases c9 : n = 74
        · rw [c9, zv_is, zv_is]
        · rw [zv_other c9, zv_other c9]; exact j4 n hn
      · exact j4 n hn
    have es : ∀ (f : Nat → Int → Int) (M V W : Int), zv (zv (zv (zv f 69 p x) 70 p M) 65 x V) 59 19 W n p = if n = 70 then M else if n = 69 then x else f n p := fun f M V W => by
      rw [zv_other (by omega), zv_other (by omega)]
      by_cases c9 : n = 70
      · rw [if_pos c9, c9, zv_is]
      · rw [if_neg c9, zv_other c9]
        by_cases c8 : n = 69
        · rw [if_pos c8, c8, zv_is]
        · rw [if_neg c8, zv_other c8]
    split
    · rw [es, es]
      split
      · rfl
      · split
        · rfl
        · exact j4 n hn
    · split
      · exact z _
      · by_cases c9 : n = 73
        · rw [c9, zv_is, zv_is]
        · rw [zv_other c9, zv_other c9]
          by_cases c8 : n = 72
          · rw [c8, zv_is, zv_is]
          · rw [zv_other c8, zv_other c8]; exact z _
theorem eQ_Tz {x a9 np : Int} (x0 : 0 ≤ x) {a b : Int → Int} {h g : Nat → Int → Int} (e : eQ x a9 np h g) : ∀ c : Nat, (∀ j : Int, 0 ≤ j → j < (c : Int) → (0 ≤ a j ∧ a j < np) ∧ b j = a j ∧ pFr (h 60) (a j) = a9 ∧ h 69 (a j) < 0) → eQ x a9 np (sTz x a h c) (sTz x b g c)
  | 0, _ => e
  | c + 1, hj => by
    have i := eQ_Tz x0 e c (fun j j0 j1 => hj j j0 (by omega))
    obtain ⟨⟨b0, b1⟩, b2, b3, b4⟩ := hj c (by omega) (by omega)
    show eQ x a9 np (sTry x (a c) _) (sTry x (b c) _)
    rw [b2]
    refine eQ_Try x0 b0 b1 i ?_ ?_
    · show pFr (sTz x a h c 60) (a c) = a9
      rw [(sTz_71 _).2.1]; exact b3
    · show sTz x a h c 69 (a c) < 0 ∨ sTz x a h c 69 (a c) = x
      rcases sTz_69 (x := x) (q := a c) (a := a) (g := h) c with z | z
      · rw [z]; exact Or.inl b4
      · exact Or.inr z
