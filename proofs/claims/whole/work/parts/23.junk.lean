/-! What a day comes to hangs on the numbers told, not on what the cells of work held before -/
/-- the cells that count: N trains running, np people, the places W of the two tables by stops -/
def dM (W : Int → Prop) (N np : Int) (n : Nat) (j : Int) : Prop := n = 60 ∨ (n = 59 ∧ (j = 17 ∨ j = 18 ∨ j = 19)) ∨ (63 ≤ n ∧ n ≤ 66 ∧ 0 ≤ j ∧ j < N) ∨ (69 ≤ n ∧ n ≤ 74 ∧ 0 ≤ j ∧ j < np) ∨ (67 ≤ n ∧ n ≤ 68 ∧ W j)
def dQ (W : Int → Prop) (N np : Int) (h g : Nat → Int → Int) : Prop := ∀ n j, dM W N np n j → h n j = g n j
theorem dQ.st {W : Int → Prop} {N np : Int} {h g : Nat → Int → Int} (q : dQ W N np h g) (n : Nat) (j : Int) {v w : Int} (e : v = w) : dQ W N np (zv h n j v) (zv g n j w) := by
  intro m i hm
  rw [zv_eq, zv_eq, e, q m i hm]
theorem dQ.e60 {W : Int → Prop} {N np : Int} {h g : Nat → Int → Int} (q : dQ W N np h g) : g 60 = h 60 := funext fun j => (q 60 j (Or.inl rfl)).symm
theorem dQ.e59 {W : Int → Prop} {N np : Int} {h g : Nat → Int → Int} (q : dQ W N np h g) (j : Int) (hj : j = 17 ∨ j = 18 ∨ j = 19) : g 59 j = h 59 j := (q 59 j (Or.inr (Or.inl ⟨rfl, hj⟩))).symm
theorem dQ.eT {W : Int → Prop} {N np : Int} {h g : Nat → Int → Int} (q : dQ W N np h g) (n : Nat) {x : Int} (x0 : 0 ≤ x) (x1 : x < N) (h0 : 63 ≤ n := by omega) (h1 : n ≤ 66 := by omega) : g n x = h n x := (q n x (Or.inr (Or.inr (Or.inl ⟨h0, h1, x0, x1⟩)))).symm
theorem dQ.eP {W : Int → Prop} {N np : Int} {h g : Nat → Int → Int} (q : dQ W N np h g) (n : Nat) {x : Int} (x0 : 0 ≤ x) (x1 : x < np) (h0 : 69 ≤ n := by omega) (h1 : n ≤ 74 := by omega) : g n x = h n x := (q n x (Or.inr (Or.inr (Or.inr (Or.inl ⟨h0, h1, x0, x1⟩))))).symm
theorem dQ.za {W : Int → Prop} {N np : Int} {h g : Nat → Int → Int} (q : dQ W N np h g) {a b : Int → Int} : dQ W N np (zar h 75 a) (zar g 75 b) := by
  intro m i hm
  have : ¬ m = 75 := by
    unfold dM at hm
    omega
  rw [zar_other this, zar_other this]
  exact q m i hm
theorem dQ_GO {W : Int → Prop} {N np : Int} {h g : Nat → Int → Int} {x : Int} (x0 : 0 ≤ x) (x1 : x < N) (q : dQ W N np h g) : ∀ c : Nat, (c : Int) ≤ np → dQ W N np (sGO x h c) (sGO x g c)
  | 0, _ => q
  | c + 1, hc => by
    have i := dQ_GO x0 x1 q c (by omega)
    show dQ W N np (sGO1 x c (sGO x h c)) (sGO1 x c (sGO x g c))
    generalize sGO x h c = h9 at *
    generalize sGO x g c = g9 at *
    unfold sGO1
    rw [i.e60, i.eP 69 (x := c) (by omega) (by omega), i.eP 71 (x := c) (by omega) (by omega), i.eT 63 x0 x1, i.eT 64 x0 x1, i.eT 65 x0 x1, i.e59 19 (by omega)]
    split
    · exact ((i.st 71 c rfl).st 65 x rfl).st 59 19 rfl
    · exact i
theorem zpos_cg {p : Int → Int} {a b : Int → Int} {t : Int} : ∀ n : Nat, (∀ j : Int, 0 ≤ j → j < n → a j = b j) → zpos p a t n = zpos p b t n
  | 0, _ => rfl
  | n + 1, hj => by
    have i := zpos_cg (p := p) (t := t) n (fun j j0 j1 => hj j j0 (by omega))
    unfold zpos
    rw [i, hj n (by omega) (by omega)]
theorem dQ_As {W : Int → Prop} {N np : Int} {h g : Nat → Int → Int} {x : Int} (x0 : 0 ≤ x) (x1 : x < N) (q : dQ W N np h g) : ∀ c : Nat, (c : Int) ≤ np → (sAs x h c).1 = (sAs x g c).1 ∧ (∀ j : Int, 0 ≤ j → j < ((sAs x h c).1 : Int) → (sAs x h c).2 j = (sAs x g c).2 j)
  | 0, _ => ⟨rfl, fun j h0 h1 => by simp only [sAs, zfo] at h1; omega⟩
  | c + 1, hc => by
    obtain ⟨i1, i2⟩ := dQ_As x0 x1 q c (by omega)
    show (sAs1 x h c (sAs x h c)).1 = (sAs1 x g c (sAs x g c)).1 ∧ (∀ j : Int, 0 ≤ j → j < ((sAs1 x h c (sAs x h c)).1 : Int) → (sAs1 x h c (sAs x h c)).2 j = (sAs1 x g c (sAs x g c)).2 j)
    generalize sAs x h c = u at *
    generalize sAs x g c = v at *
    obtain ⟨n9, a⟩ := u
    obtain ⟨m9, b⟩ := v
    dsimp only at i1 i2
    subst i1
    unfold sAs1
    dsimp only
    rw [q.e60, q.eP 69 (x := c) (by omega) (by omega), q.eT 63 x0 x1, q.e59 17 (by omega), ← zpos_cg n9 i2]
    split
    · refine ⟨rfl, fun j j0 j1 => ?_⟩
      dsimp only at j1 ⊢
      have lz := zpos_le (p := h 60) (a := a) (t := (c : Int)) n9
      generalize zpos (h 60) a (c : Int) n9 = k9 at *
      unfold insA
      by_cases z : j = (k9 : Int)
      · rw [if_pos z, if_pos z]
      · rw [if_neg z, if_neg z]
        unfold shA
        by_cases z2 : (k9 : Int) < j ∧ j ≤ n9
        · rw [if_pos z2, if_pos z2]
          exact i2 _ (by omega) (by omega)
        · rw [if_neg z2, if_neg z2]
          by_cases z3 : j < n9
          · exact i2 _ (by omega) z3
          · exact absurd z2 (by omega)
    · exact ⟨rfl, i2⟩
theorem dQ_Try {W : Int → Prop} {N np : Int} {h g : Nat → Int → Int} {x p : Int} (x0 : 0 ≤ x) (x1 : x < N) (p0 : 0 ≤ p) (p1 : p < np) (q : dQ W N np h g) : dQ W N np (sTry x p h) (sTry x p g) := by
  unfold sTry
  rw [q.e60, q.eT 64 x0 x1, q.eT 65 x0 x1, q.eP 72 p0 p1, q.eP 73 p0 p1, q.eP 74 p0 p1, q.e59 19 (by omega)]
  split
  · exact (((q.st 69 p rfl).st 70 p rfl).st 65 x rfl).st 59 19 rfl
  · have q2 : ∀ c : Prop, [Decidable c] → dQ W N np (if c then zv h 74 p (h 74 p + 1) else h) (if c then zv g 74 p (h 74 p + 1) else g) := by
      intro c _
      split
      · exact q.st 74 p rfl
      · exact q
    split
    · exact q2 _
    · exact ((q2 _).st 72 p rfl).st 73 p rfl
theorem dQ_Ta {W : Int → Prop} {N np : Int} {x : Int} (x0 : 0 ≤ x) (x1 : x < N) {a b : Int → Int} {h g : Nat → Int → Int} (q : dQ W N np h g) : ∀ c : Nat, (∀ j : Int, 0 ≤ j → j < (c : Int) → 0 ≤ a j ∧ a j < np ∧ b j = a j) → dQ W N np (zfo (fun j s => sTry x (a j) s) h c) (zfo (fun j s => sTry x (b j) s) g c)
  | 0, _ => q
  | c + 1, hj => by
    have i := dQ_Ta x0 x1 q c (fun j j0 j1 => hj j j0 (by omega))
    obtain ⟨b0, b1, b2⟩ := hj c (by omega) (by omega)
    show dQ W N np (sTry x (a c) _) (sTry x (b c) _)
    rw [b2]
    exact dQ_Try x0 x1 b0 b1 i
theorem zmk_cg {f g : Int → Bool} : ∀ c : Nat, (∀ p : Int, 0 ≤ p → p < c → f p = g p) → zmk f c = zmk g c
  | 0, _ => rfl
  | c + 1, hj => by
    have i := zmk_cg c (fun j j0 j1 => hj j j0 (by omega))
    unfold zmk
    rw [i, hj c (by omega) (by omega)]
theorem sAs_lt {x : Int} {h : Nat → Int → Int} : ∀ c : Nat, ∀ j : Int, 0 ≤ j → j < ((sAs x h c).1 : Int) → 0 ≤ (sAs x h c).2 j ∧ (sAs x h c).2 j < c
  | 0 => fun j h0 h1 => by simp only [sAs, zfo] at h1; omega
  | c + 1 => by
    have i2 := sAs_lt (x := x) (h := h) c
    show ∀ j : Int, 0 ≤ j → j < ((sAs1 x h c (sAs x h c)).1 : Int) → 0 ≤ (sAs1 x h c (sAs x h c)).2 j ∧ (sAs1 x h c (sAs x h c)).2 j < ((c + 1 : Nat) : Int)
    unfold sAs1
    split
    · intro j h0 h1
      have h1 : j < ((sAs x h c).1 + 1 : Nat) := h1
      show 0 ≤ insA (sAs x h c).2 (sAs x h c).1 c (zpos (h 60) (sAs x h c).2 c (sAs x h c).1) j ∧ insA (sAs x h c).2 (sAs x h c).1 c (zpos (h 60) (sAs x h c).2 c (sAs x h c).1) j < _
      have := zpos_le (p := h 60) (a := (sAs x h c).2) (t := c) (sAs x h c).1
      unfold insA
      split
      · omega
      · unfold shA
        split
        · have := i2 (j - 1) (by omega) (by omega)
          omega
        · have := i2 j (by omega) (by omega)
          omega
    · intro j h0 h1
      have := i2 j h0 h1
      omega
theorem sTa_75 {x : Int} : ∀ (c : Nat) {g : Nat → Int → Int}, sTa x g c = zfo (fun j s => sTry x (g 75 j) s) g c := fun _ _ => rfl
/-- the same but for the number 'moved' -/
def dR (W : Int → Prop) (N np : Int) (h g : Nat → Int → Int) : Prop := dQ W N np (zv h 59 19 0) (zv g 59 19 0)
theorem dQ.r {W : Int → Prop} {N np : Int} {h g : Nat → Int → Int} (q : dQ W N np h g) : dR W N np h g := q.st 59 19 rfl
theorem dR.e60 {W : Int → Prop} {N np : Int} {h g : Nat → Int → Int} (q : dR W N np h g) : g 60 = h 60 := dQ.e60 (h := zv h 59 19 0) (g := zv g 59 19 0) q
theorem dR.eT {W : Int → Prop} {N np : Int} {h g : Nat → Int → Int} (q : dR W N np h g) (n : Nat) {x : Int} (x0 : 0 ≤ x) (x1 : x < N) (h0 : 63 ≤ n := by omega) (h1 : n ≤ 66 := by omega) : g n x = h n x := by
  have e := dQ.eT q n x0 x1 h0 h1
  rw [zv_other (by omega), zv_other (by omega)] at e
  exact e
theorem dR.eP {W : Int → Prop} {N np : Int} {h g : Nat → Int → Int} (q : dR W N np h g) (n : Nat) {x : Int} (x0 : 0 ≤ x) (x1 : x < np) (h0 : 69 ≤ n := by omega) (h1 : n ≤ 74 := by omega) : g n x = h n x := by
  have e := dQ.eP q n x0 x1 h0 h1
  rw [zv_other (by omega), zv_other (by omega)] at e
  exact e
theorem dR.eW {W : Int → Prop} {N np : Int} {h g : Nat → Int → Int} (q : dR W N np h g) (n : Nat) (hn : n = 67 ∨ n = 68) {i : Int} (w : W i) : g n i = h n i := by
  have e := q n i (Or.inr (Or.inr (Or.inr (Or.inr ⟨by omega, by omega, w⟩))))
  rw [zv_other (by omega), zv_other (by omega)] at e
  exact e.symm
theorem dQ_stop {W : Int → Prop} {h g : Nat → Int → Int} {x : Int} (hd : dP h) (gd : dP g) (h4 : zb (h 64 x)) (x0 : 0 ≤ x) (x1 : x < 3 * h 60 0) (q : dR W (3 * h 60 0) (h 60 6) h g) : dQ (fun i => W i ∨ i = 5 * x + h 63 x) (3 * h 60 0) (h 60 6) (sStop x h) (sStop x g) := by
  have hn := nP_ok hd
  have x2 : x < 12 := by have := hd.1.2.1; omega
  have eg : nP g = nP h := by unfold nP; rw [q.e60]
  have e63 := q.eT 63 x0 x1
  have e64 := q.eT 64 x0 x1
  have A2 := sS2_ok (x := x) hd h4
  have B2 := sS2_ok (x := x) gd (by rw [e64]; exact h4)
  have A4 := sS4_ok (x := x) hd h4 x0 x2
  have B4 := sS4_ok (x := x) gd (by rw [e64]; exact h4) x0 x2
  -- the tables are set apart: W stays as it is until the end
  have q1 : dQ (fun i => W i ∧ ¬ i = 5 * x + h 63 x) (3 * h 60 0) (h 60 6) (zv (zv h 59 19 0) 67 (5 * x + h 63 x) (h 64 x)) (zv (zv g 59 19 0) 67 (5 * x + g 63 x) (g 64 x)) := by
    rw [e63, e64]
    have q0 : dQ (fun i => W i ∧ ¬ i = 5 * x + h 63 x) (3 * h 60 0) (h 60 6) (zv h 59 19 0) (zv g 59 19 0) := fun n j hm => q n j (by
      unfold dM at hm ⊢
      rcases hm with a | a | a | a | ⟨a, b, d⟩
      · exact Or.inl a
      · exact Or.inr (Or.inl a)
      · exact Or.inr (Or.inr (Or.inl a))
      · exact Or.inr (Or.inr (Or.inr (Or.inl a)))
      · exact Or.inr (Or.inr (Or.inr (Or.inr ⟨a, b, d.1⟩))))
    exact q0.st 67 _ rfl
  have q2 : dQ (fun i => W i ∧ ¬ i = 5 * x + h 63 x) (3 * h 60 0) (h 60 6) (sS2 x h) (sS2 x g) := by
    unfold sS2
    rw [eg]
    exact dQ_GO x0 x1 q1 (nP h) (by omega)
  have q4 : dQ (fun i => W i ∧ ¬ i = 5 * x + h 63 x) (3 * h 60 0) (h 60 6) (sS4 x h) (sS4 x g) := by
    unfold sS4
    rw [e63]
    split
    · obtain ⟨a1, a2⟩ := dQ_As x0 x1 q2 (nP h) (by omega)
      have l1 := sAs_lt (x := x) (h := sS2 x h) (nP h)
      have q3 : dQ (fun i => W i ∧ ¬ i = 5 * x + h 63 x) (3 * h 60 0) (h 60 6) (sS3 x h) (sS3 x g) := q2.za
      rw [sTa_75, sTa_75, eg, ← a1]
      refine dQ_Ta x0 x1 q3 _ (fun j j0 j1 => ?_)
      have e1 : sS3 x h 75 j = (sAs x (sS2 x h) (nP h)).2 j := congrFun zar_at j
      have e2 : sS3 x g 75 j = (sAs x (sS2 x g) (nP g)).2 j := congrFun zar_at j
      rw [e1, e2, eg]
      obtain ⟨b0, b1⟩ := l1 j j0 j1
      exact ⟨b0, by omega, (a2 j j0 j1).symm⟩
    · exact q2
  have q5 : dQ (fun i => W i ∧ ¬ i = 5 * x + h 63 x) (3 * h 60 0) (h 60 6) (sS5 x h) (sS5 x g) := by
    unfold sS5
    exact q4.st 66 x (by rw [q4.eT 66 x0 x1, q4.eT 65 x0 x1])
  have f5 : sS5 x h 63 x = h 63 x ∧ sS5 x g 63 x = h 63 x := by
    unfold sS5
    exact ⟨by rw [zv_other (by omega), A4.2.2.1], by rw [zv_other (by omega), B4.2.2.1, e63]⟩
  have em : zmk (zabd (sS5 x g) x) (nP h) = zmk (zabd (sS5 x h) x) (nP h) := zmk_cg _ fun p p0 p1 => by
    unfold zabd
    rw [q5.eP 69 p0 (by omega), q5.eP 71 p0 (by omega)]
  have q6 : dQ (fun i => W i ∨ i = 5 * x + h 63 x) (3 * h 60 0) (h 60 6) (sS6 x h) (sS6 x g) := by
    intro m i hm
    unfold sS6
    rw [eg, e63, em]
    by_cases c : m = 68 ∧ i = 5 * x + h 63 x
    · rw [c.1, c.2, zv_is, zv_is]
    · rw [zv_eq, zv_eq, if_neg c, if_neg c]
      by_cases c2 : m = 67 ∧ i = 5 * x + h 63 x
      · rw [c2.1, c2.2]
        have w1 : sS5 x h 67 = sS4 x h 67 := zv_other (by omega)
        have w2 : sS5 x g 67 = sS4 x g 67 := zv_other (by omega)
        rw [w1, w2, A4.2.2.2.2.2.1, B4.2.2.2.2.2.1, e63, e64, zv_is, zv_is]
      · refine q5 m i ?_
        unfold dM at hm ⊢
        rcases hm with a | a | a | a | ⟨a, b, d⟩
        · exact Or.inl a
        · exact Or.inr (Or.inl a)
        · exact Or.inr (Or.inr (Or.inl a))
        · exact Or.inr (Or.inr (Or.inr (Or.inl a)))
        · refine Or.inr (Or.inr (Or.inr (Or.inr ⟨a, b, ?_⟩)))
          have z : ¬ i = 5 * x + h 63 x := fun z => by omega
          exact ⟨d.resolve_right z, z⟩
  have q7 : dQ (fun i => W i ∨ i = 5 * x + h 63 x) (3 * h 60 0) (h 60 6) (sS7 x h) (sS7 x g) := by
    unfold sS7
    rw [e63, e64, q.e60, q4.e59 19 (by omega)]
    split
    · exact q6.st 64 x rfl
    · exact q6
  unfold sStop
  exact q7.st 63 x (by rw [e63])
/-- the tables hold what the trains with n depths have gone through -/
def dCv (W : Int → Prop) (h : Nat → Int → Int) : Prop := ∀ y a : Int, 0 ≤ y → y < 3 * h 60 0 → y % 3 < h 59 18 → 0 ≤ a → a < h 63 y → W (5 * y + a)
theorem sNx_cg {W : Int → Prop} {N np : Int} {h g : Nat → Int → Int} (q : dR W N np h g) : ∀ c : Nat, (c : Int) ≤ N → sNx g c = sNx h c
  | 0, _ => rfl
  | c + 1, hc => by
    have i := sNx_cg q c (by omega)
    have j := sNx_in h c
    unfold sNx
    rw [i, q.eT 63 (x := c) (by omega) (by omega), q.eT 64 (x := c) (by omega) (by omega)]
    rcases j with j | j
    · rw [j]
      by_cases z : h 63 c < 5
      · rw [if_pos ⟨z, Or.inl (by omega)⟩, if_pos ⟨z, Or.inl (by omega)⟩]
      · rw [if_neg (fun t => z t.1), if_neg (fun t => z t.1)]
    · rw [q.eT 64 (x := sNx h c) (by omega) (by omega)]
theorem dQ_evs : ∀ (c : Nat) {W : Int → Prop} {h g : Nat → Int → Int}, dZ h → dZ g → dR W (3 * h 60 0) (h 60 6) h g → dCv W h → ∃ W', dR W' (3 * h 60 0) (h 60 6) (sEvs c h) (sEvs c g) ∧ dCv W' (sEvs c h)
  | 0, W, h, g, _, _, q, w => ⟨W, q, w⟩
  | c + 1, W, h, g, hd, gd, q, w => by
    have n0 := hd.1.1.1
    have e9 : (nT h : Int) = 3 * h 60 0 := by unfold nT; omega
    have en : nT g = nT h := by unfold nT; rw [q.e60]
    have ex : sNx g (nT h) = sNx h (nT h) := sNx_cg q (nT h) (by omega)
    unfold sEvs
    rw [en, ex]
    have i := sNx_in h (nT h)
    generalize sNx h (nT h) = x at *
    by_cases z : x < 0
    · rw [if_pos z, if_pos z]
      exact ⟨W, q, w⟩
    · rw [if_neg z, if_neg z]
      obtain ⟨hx, ht, hz⟩ := dZ_stop hd (x := x) (by omega) (by omega) (by omega)
      obtain ⟨gx, gt, gz⟩ := dZ_stop gd (x := x) (by omega) (by rw [q.e60]; omega) (by rw [q.eT 63 (x := x) (by omega) (by omega)]; omega)
      have h4 : zb (h 64 x) := by
        obtain ⟨⟨s0, s1⟩, ⟨t0, t1⟩, -⟩ := hx
        exact ⟨by omega, by omega⟩
      have q2 := dQ_stop hd.1 gd.1 h4 (by omega) (by omega) q
      have e60 : sStop x h 60 = h 60 := ht.1 60 (by omega) (by omega)
      have cv : dCv (fun i => W i ∨ i = 5 * x + h 63 x) (sStop x h) := by
        intro y a y0 y1 y2 a0 a1
        rw [e60] at y1
        rw [ht.2.1 18 (by omega)] at y2
        by_cases yx : y = x
        · rw [yx, ht.2.2.2.1] at a1
          rw [yx] at y0 y1 y2 ⊢
          by_cases al : a = h 63 x
          · exact Or.inr (by rw [al])
          · exact Or.inl (w x a y0 y1 y2 a0 (by omega))
        · rw [ht.2.2.1 63 y (by omega) (by omega) yx] at a1
          exact Or.inl (w y a y0 y1 y2 a0 a1)
      have r9 := dQ_evs c hz gz (by rw [e60]; exact q2.r) cv
      rw [e60] at r9
      exact r9
/-- the same plan, the same one away, the same number of depths -/
def dS (h g : Nat → Int → Int) : Prop := g 60 = h 60 ∧ g 59 17 = h 59 17 ∧ g 59 18 = h 59 18
theorem dQ_beg {h g : Nat → Int → Int} (s : dS h g) (q9 : h 59 19 = g 59 19) : dQ (fun _ => False) (3 * h 60 0) (h 60 6) (sBeg h) (sBeg g) := by
  obtain ⟨s1, s2, s3⟩ := s
  intro m j hm
  unfold dM at hm
  rcases hm with a | ⟨a, b⟩ | ⟨a0, a1, a2, a3⟩ | ⟨a0, a1, a2, a3⟩ | ⟨a, b, d⟩
  · subst a
    unfold sBeg
    rw [sB2_lo (by omega), sB2_lo (by omega), sB1_lo (by omega), sB1_lo (by omega), s1]
  · subst a
    unfold sBeg
    rw [sB2_lo (by omega), sB2_lo (by omega), sB1_lo (by omega), sB1_lo (by omega)]
    rcases b with b | b | b
    · rw [b, s2]
    · rw [b, s3]
    · rw [b, q9]
  · unfold sBeg
    rw [sB2_lo (by omega), sB2_lo (by omega), s1]
    unfold sB1
    have c : 0 ≤ j ∧ j < 3 * h 60 0 ∧ 63 ≤ m ∧ m ≤ 66 := ⟨a2, a3, a0, a1⟩
    rw [if_pos c, if_pos c, s1, s3]
  · unfold sBeg
    rw [s1]
    unfold sB2
    have c : 0 ≤ j ∧ j < h 60 6 ∧ 69 ≤ m ∧ m ≤ 74 := ⟨a2, a3, a0, a1⟩
    rw [if_pos c, if_pos c]
  · exact d.elim
theorem sBeg_59 {h : Nat → Int → Int} {v : Int} : sBeg (zv h 59 19 v) = zv (sBeg h) 59 19 v := by
  funext m j
  have e60 : zv h 59 19 v 60 = h 60 := rfl
  have e18 : zv h 59 19 v 59 18 = h 59 18 := zv_at (by omega)
  by_cases c : m = 59
  · subst c
    unfold sBeg
    rw [sB2_lo (by omega), sB1_lo (by omega)]
    by_cases z : j = 19
    · rw [z, zv_is, zv_is]
    · rw [zv_at z, zv_at z, sB2_lo (by omega), sB1_lo (by omega)]
  · rw [zv_other c]
    unfold sBeg
    rw [e60]
    unfold sB2
    split
    · rfl
    · unfold sB1
      rw [e60, e18, zv_other c]
theorem dR_goes {h g : Nat → Int → Int} (hd : dP h) (gd : dP g) (s : dS h g) : ∃ W', dR W' (3 * h 60 0) (h 60 6) (sGoes h) (sGoes g) ∧ dCv W' (sGoes h) := by
  obtain ⟨hz, hf⟩ := dZ_beg hd
  obtain ⟨gz, gf⟩ := dZ_beg gd
  have e60 : sBeg h 60 = h 60 := hf 60 (by omega)
  have b : dR (fun _ => False) (3 * h 60 0) (h 60 6) (sBeg h) (sBeg g) := by
    have b9 := dQ_beg (h := zv h 59 19 0) (g := zv g 59 19 0) ⟨s.1, by rw [zv_at (by omega), zv_at (by omega)]; exact s.2.1, by rw [zv_at (by omega), zv_at (by omega)]; exact s.2.2⟩ (by rw [zv_is, zv_is])
    rw [sBeg_59, sBeg_59] at b9
    exact b9
  have cv : dCv (fun _ => False) (sBeg h) := by
    intro y a y0 y1 y2 a0 a1
    rw [e60] at y1
    rw [hf 59 (by omega)] at y2
    have : sBeg h 63 y = 0 := by
      unfold sBeg
      rw [sB2_lo (by omega)]
      unfold sB1
      rw [if_pos ⟨y0, y1, by omega, by omega⟩, if_pos rfl, if_pos y2]
    omega
  have r9 := dQ_evs 61 hz gz (by rw [e60]; exact b) cv
  rw [e60] at r9
  exact r9
/-- all trains have gone through -/
theorem sNx_no {h : Nat → Int → Int} : ∀ c : Nat, sNx h c < 0 → ∀ y : Int, 0 ≤ y → y < c → 5 ≤ h 63 y
  | 0, _, y, y0, y1 => by omega
  | c + 1, hc, y, y0, y1 => by
    unfold sNx at hc
    by_cases z : h 63 c < 5 ∧ (sNx h c < 0 ∨ h 64 c < h 64 (sNx h c))
    · rw [if_pos z] at hc
      omega
    · rw [if_neg z] at hc
      have i := sNx_no c hc
      by_cases e : y = c
      · rw [e]
        have : ¬ h 63 c < 5 := fun q => z ⟨q, Or.inl hc⟩
        omega
      · exact i y y0 (by omega)
theorem sEvs_end : ∀ (c : Nat) {h : Nat → Int → Int}, dZ h → sMz h (nT h) < c → ∀ y : Int, 0 ≤ y → y < 3 * h 60 0 → sEvs c h 63 y = 5
  | 0, h, hd, hm, y, y0, y1 => by
    have n0 := hd.1.1.1
    have e9 : (nT h : Int) = 3 * h 60 0 := by unfold nT; omega
    have := sMz_ge (h := h) (nT h) (fun y y0 y1 => (hd.2 y y0 (by omega)).1.2)
    omega
  | c + 1, h, hd, hm, y, y0, y1 => by
    have n0 := hd.1.1.1
    have e9 : (nT h : Int) = 3 * h 60 0 := by unfold nT; omega
    have i := sNx_in h (nT h)
    have no := sNx_no (h := h) (nT h)
    unfold sEvs
    generalize sNx h (nT h) = x at *
    by_cases z : x < 0
    · rw [if_pos z]
      have a := no z y y0 (by omega)
      have b := (hd.2 y y0 y1).1.2
      omega
    · rw [if_neg z]
      obtain ⟨-, ht, hz⟩ := dZ_stop hd (x := x) (by omega) (by omega) (by omega)
      have e60 : sStop x h 60 = h 60 := ht.1 60 (by omega) (by omega)
      have qn : nT (sStop x h) = nT h := by unfold nT; rw [e60]
      have mm := sMz_st (h := h) (g := sStop x h) (x := x) (by omega) ht.2.2.2.1 (fun y hy => ht.2.2.1 63 y (by omega) (by omega) hy) (nT h)
      rw [if_pos (by omega)] at mm
      exact sEvs_end c hz (by rw [qn]; omega) y y0 (by rw [e60]; exact y1)
theorem sGoes_end {h : Nat → Int → Int} (hd : dP h) {y : Int} (y0 : 0 ≤ y) (y1 : y < 3 * h 60 0) : sGoes h 63 y = 5 := by
  obtain ⟨hz, fr⟩ := dZ_beg hd
  have e60 : sBeg h 60 = h 60 := fr 60 (by omega)
  have n0 := hz.1.1.1
  have n1 := hz.1.1.2.1
  have e9 : (nT (sBeg h) : Int) = 3 * sBeg h 60 0 := by unfold nT; omega
  have ml := sMz_le (h := sBeg h) (nT (sBeg h)) (fun y y0 y1 => (hz.2 y y0 (by omega)).1.1)
  exact sEvs_end 61 hz (by omega) y y0 (by rw [e60]; exact y1)
/-- nothing but a plan, who is away, and the number of depths -/
def dC (p : Int → Int) (w dd : Int) : Nat → Int → Int := fun n j => if n = 60 then p j else if n = 59 ∧ j = 17 then w else if n = 59 ∧ j = 18 then dd else 0
/-- what a day comes to, from the plan, who is away, and the number of depths -/
def dN (p : Int → Int) (w dd : Int) : Nat → Int → Int := sGoes (dC p w dd)
theorem dC_ok {p : Int → Int} {w dd : Int} (hp : pOK p) (hw : zb w) : dP (dC p w dd) := by
  refine ⟨hp, fun j => ?_, fun j => ?_, fun j _ _ => ?_, ?_⟩
  · show zb (if (69 : Nat) = 60 then p j else if (69 : Nat) = 59 ∧ j = 17 then w else if (69 : Nat) = 59 ∧ j = 18 then dd else 0)
    rw [if_neg (by omega), if_neg (by omega), if_neg (by omega)]
    exact ⟨by omega, by omega⟩
  · show zb (if (71 : Nat) = 60 then p j else if (71 : Nat) = 59 ∧ j = 17 then w else if (71 : Nat) = 59 ∧ j = 18 then dd else 0)
    rw [if_neg (by omega), if_neg (by omega), if_neg (by omega)]
    exact ⟨by omega, by omega⟩
  · show 0 ≤ (if (72 : Nat) = 60 then p j else if (72 : Nat) = 59 ∧ j = 17 then w else if (72 : Nat) = 59 ∧ j = 18 then dd else 0) ∧ (if (72 : Nat) = 60 then p j else if (72 : Nat) = 59 ∧ j = 17 then w else if (72 : Nat) = 59 ∧ j = 18 then dd else 0) < 4096
    rw [if_neg (by omega), if_neg (by omega), if_neg (by omega)]
    exact ⟨by omega, by omega⟩
  · exact hw
/-- the end of a day, whatever the cells of work held before -/
theorem day_eq {h : Nat → Int → Int} (hd : dP h) : (∀ n : Nat, 69 ≤ n → n ≤ 74 → ∀ t : Int, 0 ≤ t → t < h 60 6 → sGoes h n t = dN (h 60) (h 59 17) (h 59 18) n t) ∧ (∀ n : Nat, 63 ≤ n → n ≤ 66 → ∀ x : Int, 0 ≤ x → x < 3 * h 60 0 → sGoes h n x = dN (h 60) (h 59 17) (h 59 18) n x) ∧ (∀ n : Nat, n = 67 ∨ n = 68 → ∀ x a : Int, 0 ≤ x → x < 3 * h 60 0 → x % 3 < h 59 18 → 0 ≤ a → a < 5 → sGoes h n (5 * x + a) = dN (h 60) (h 59 17) (h 59 18) n (5 * x + a)) := by
  have gd : dP (dC (h 60) (h 59 17) (h 59 18)) := dC_ok hd.1 hd.2.2.2.2
  have s : dS (dC (h 60) (h 59 17) (h 59 18)) h := ⟨rfl, rfl, rfl⟩
  obtain ⟨W, q, cv⟩ := dR_goes gd hd s
  refine ⟨fun n n0 n1 t t0 t1 => q.eP n t0 t1 n0 n1, fun n n0 n1 x x0 x1 => q.eT n x0 x1 n0 n1, fun n hn x a x0 x1 x2 a0 a1 => q.eW n hn (cv x a x0 ?_ ?_ a0 ?_)⟩
  · rw [(sGoes_ok gd).2.1 60 (by omega) (by omega)]
    exact x1
  · rw [(sGoes_ok gd).2.2 18 (by omega)]
    exact x2
  · rw [sGoes_end gd x0 x1]
    exact a1
