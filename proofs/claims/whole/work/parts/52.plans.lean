/-! the text of a day: plans as they are told -/
/-- a plan as it is told, with the narrower ranges -/
def pS (p : Int → Int) : Prop := pOK p ∧ (∀ t : Int, 0 ≤ t → t < 8 → pBa p t ≤ 300) ∧ (∀ j : Int, 7 ≤ j → j < 11 → p j ≤ 60) ∧ (∀ t : Int, 0 ≤ t → t < p 6 → pFr p t < pTo p t) ∧ p 1 < z2 (p 0)
theorem z2v : z2 0 = 1 ∧ z2 1 = 2 ∧ z2 2 = 4 ∧ z2 3 = 8 ∧ z2 4 = 16 := ⟨rfl, rfl, rfl, rfl, rfl⟩
theorem z2_up {a : Int} (a0 : 0 ≤ a) (a1 : a < 4) : z2 a ≤ z2 (a + 1) := by
  obtain ⟨e0, e1, e2, e3, e4⟩ := z2v
  rcases (by omega : a = 0 ∨ a = 1 ∨ a = 2 ∨ a = 3) with q | q | q | q <;> (subst q; decide)
theorem zxb_lt {m t a : Int} (m0 : 0 ≤ m) (m1 : m < z2 a) (t0 : 0 ≤ t) (t1 : t < a) (a1 : a ≤ 4) : zxb m t < z2 a := by
  obtain ⟨e0, e1, e2, e3, e4⟩ := z2v
  have ha : a = 1 ∨ a = 2 ∨ a = 3 ∨ a = 4 := by omega
  have ht : t = 0 ∨ t = 1 ∨ t = 2 ∨ t = 3 := by omega
  rcases ha with q | q | q | q <;> rcases ht with w | w | w | w <;> subst q <;> subst w <;> first | omega | (unfold zxb zbt; simp only [e0, e1, e2, e3, e4] at *; split <;> omega)
/-- the places apart, the rest the same -/
theorem pS_put {p : Int → Int} (hp : pS p) {i v : Int} (hv : (i = 1 ∧ 0 ≤ v ∧ v < z2 (p 0)) ∨ (i = 2 ∧ 0 ≤ v ∧ v ≤ 30) ∨ (i = 3 ∧ 1 ≤ v ∧ v ≤ 30) ∨ (i = 4 ∧ 0 ≤ v ∧ v ≤ 9) ∨ (i = 5 ∧ 0 ≤ v ∧ v ≤ 9) ∨ (7 ≤ i ∧ i < 11 ∧ 1 ≤ v ∧ v ≤ 60) ∨ (11 ≤ i ∧ i < 19 ∧ i % 2 = 1 ∧ 0 ≤ v ∧ v ≤ 300) ∨ (11 ≤ i ∧ i < 19 ∧ i % 2 = 0 ∧ 0 ≤ v ∧ v ≤ 9)) : pS (zp p i v) := by
  obtain ⟨h1, h2, h3, h4, h5⟩ := hp
  have z16 : z2 (p 0) ≤ 16 := by
    obtain ⟨e0, e1, e2, e3, e4⟩ := z2v
    have := h1.1
    have := h1.2.1
    rcases (by omega : p 0 = 0 ∨ p 0 = 1 ∨ p 0 = 2 ∨ p 0 = 3 ∨ p 0 = 4) with q | q | q | q | q <;> rw [q] <;> omega
  refine ⟨pOK_put h1 (by omega), fun t t0 t1 => ?_, fun j j0 j1 => ?_, fun t t0 t1 => ?_, ?_⟩
  · have := h2 t t0 t1
    unfold pBa at *
    rw [zp_ne (by omega)]
    exact this
  · have := h3 j j0 j1
    unfold zp
    split <;> omega
  · rw [zp_ne (by omega)] at t1
    have := h4 t t0 t1
    have := h1.2.2.2.2.2.2.2.2.2.2.2.2.2.1
    unfold pFr pTo at *
    rw [zp_ne (by omega), zp_ne (by omega)]
    assumption
  · rw [zp_ne (j := 0) (by omega)]
    unfold zp
    split <;> omega
/-- one train more -/
theorem pS_train {p : Int → Int} (hp : pS p) {a b : Int} (a0 : 0 ≤ a) (a1 : a ≤ 300) (b0 : 0 ≤ b) (b1 : b ≤ 9) (h4 : ¬ p 0 = 4) : pS (zp (zp (zp p (11 + 2 * p 0) a) (11 + 2 * p 0 + 1) b) 0 (p 0 + 1)) := by
  have q0 := hp.1.1
  have q1 := hp.1.2.1
  have s1 := pS_put hp (i := 11 + 2 * p 0) (v := a) (by omega)
  have s2 := pS_put s1 (i := 11 + 2 * p 0 + 1) (v := b) (by omega)
  have e0 : zp (zp p (11 + 2 * p 0) a) (11 + 2 * p 0 + 1) b 0 = p 0 := by rw [zp_ne (by omega), zp_ne (by omega)]
  generalize zp (zp p (11 + 2 * p 0) a) (11 + 2 * p 0 + 1) b = q at *
  obtain ⟨⟨-, -, b2, b3, b4, b5, b6, b7, b8, b9, c0, c1, c2, c3, d1, d2, d3⟩, k2, k3, k4, k5⟩ := s2
  have up := z2_up q0 (by omega)
  have e : ∀ i, ¬ i = 0 → zp q 0 (p 0 + 1) i = q i := fun i hi => zp_ne hi
  refine ⟨⟨by rw [zp_at]; omega, by rw [zp_at]; omega, ?_, ?_, ?_, ?_, ?_, ?_, ?_, ?_, ?_, ?_, ?_, ?_, fun j j0 j1 => ?_, fun j j0 j1 => ?_, fun s s0 s1 => ?_⟩, fun t t0 t1 => ?_, fun j j0 j1 => ?_, fun t t0 t1 => ?_, ?_⟩
  iterate 12 (rw [e _ (by omega)]; assumption)
  · rw [e _ (by omega)]
    exact d1 j j0 j1
  · rw [e _ (by omega), e _ (by omega)]
    exact d2 j j0 j1
  · have := d3 s s0 s1
    unfold pK pF pFr pTo pBa at *
    rw [e _ (by omega), e _ (by omega), e _ (by omega), e _ (by omega), e _ (by omega)]
    exact this
  · have := k2 t t0 t1
    unfold pBa at *
    rw [e _ (by omega)]
    exact this
  · rw [e _ (by omega)]
    exact k3 j j0 j1
  · rw [e _ (by omega)] at t1
    have := k4 t t0 t1
    unfold pFr pTo at *
    rw [e _ (by omega), e _ (by omega)]
    exact this
  · rw [e _ (by omega), zp_at]
    rw [e0] at k5
    omega
/-- one person more: its five numbers are N's -/
def pPn (p : Int → Int) (N : Int → Int) : Int → Int := fun j => if j = 6 then p 6 + 1 else if 19 + 5 * p 6 ≤ j ∧ j < 19 + 5 * p 6 + 5 then N (j - (19 + 5 * p 6)) else p j
theorem pS_person {p N : Int → Int} (hp : pS p) (h8 : ¬ p 6 = 8) (n0 : 0 ≤ N 0 ∧ N 0 ≤ 7) (n1 : 0 ≤ N 1 ∧ N 1 ≤ 9) (n2 : 0 ≤ N 2) (n3 : N 2 < N 3) (n4 : N 3 < 5) (n5 : 0 ≤ N 4 ∧ N 4 ≤ 300) : pS (pPn p N) := by
  obtain ⟨⟨a0, a1, b2, b3, b4, b5, b6, b7, b8, b9, c0, c1, c2, c3, d1, d2, d3⟩, k2, k3, k4, k5⟩ := hp
  have e : ∀ i, ¬ i = 6 → i < 19 → pPn p N i = p i := fun i hi h => by
    unfold pPn
    rw [if_neg hi, if_neg (by omega)]
  have e6 : pPn p N 6 = p 6 + 1 := if_pos rfl
  have en : ∀ (s : Int) (f : Int), 0 ≤ s → 0 ≤ f → f < 5 → pPn p N (19 + 5 * s + f) = if s = p 6 then N f else p (19 + 5 * s + f) := fun s f s0 f0 f1 => by
    unfold pPn
    rw [if_neg (by omega)]
    by_cases q : s = p 6
    · rw [if_pos q, if_pos (by omega)]
      congr 1
      omega
    · rw [if_neg q, if_neg (by omega)]
  have en0 : ∀ s : Int, 0 ≤ s → pPn p N (19 + 5 * s) = if s = p 6 then N 0 else p (19 + 5 * s) := fun s s0 => by
    have := en s 0 s0 (by omega) (by omega)
    rw [Int.add_zero] at this
    exact this
  refine ⟨⟨by rw [e 0 (by omega) (by omega)]; exact a0, by rw [e 0 (by omega) (by omega)]; exact a1, ?_, ?_, ?_, ?_, ?_, ?_, ?_, ?_, ?_, ?_, by rw [e6]; omega, by rw [e6]; omega, fun j j0 j1 => ?_, fun j j0 j1 => ?_, fun s s0 s1 => ?_⟩, fun t t0 t1 => ?_, fun j j0 j1 => ?_, fun t t0 t1 => ?_, ?_⟩
  iterate 10 (rw [e _ (by omega) (by omega)]; assumption)
  · rw [e _ (by omega) (by omega)]
    exact d1 j j0 j1
  · rw [e _ (by omega) (by omega), e _ (by omega) (by omega)]
    exact d2 j j0 j1
  · have := d3 s s0 s1
    unfold pK pF pFr pTo pBa at *
    rw [en0 s s0, en s 1 s0 (by omega) (by omega), en s 2 s0 (by omega) (by omega), en s 3 s0 (by omega) (by omega), en s 4 s0 (by omega) (by omega)]
    by_cases q : s = p 6
    · rw [if_pos q, if_pos q, if_pos q, if_pos q, if_pos q]
      omega
    · rw [if_neg q, if_neg q, if_neg q, if_neg q, if_neg q]
      exact this
  · have := k2 t t0 t1
    unfold pBa at *
    rw [en t 4 t0 (by omega) (by omega)]
    split <;> omega
  · rw [e _ (by omega) (by omega)]
    exact k3 j j0 j1
  · rw [e6] at t1
    unfold pFr pTo at *
    rw [en t 2 t0 (by omega) (by omega), en t 3 t0 (by omega) (by omega)]
    by_cases q : t = p 6
    · rw [if_pos q, if_pos q]
      exact n3
    · rw [if_neg q, if_neg q]
      exact k4 t t0 (by omega)
  · rw [e 0 (by omega) (by omega), e 1 (by omega) (by omega)]
    exact k5
/-- the ranges of a well-formed statement's numbers -/
def nR (c : Int) (N : Int → Int) : Prop := (∀ i, 0 ≤ i → i < kN c → 0 ≤ N i ∧ N i < 1000) ∧ ((c = 116 ∨ c = 112) → N 1 ≤ 9) ∧ ((c = 115 ∨ c = 104) → N 0 ≤ 9)
theorem dPl_S {p N : Int → Int} {c : Int} (hp : pS p) (hN : nR c N) (hk : dOk p c N = 1) : pS (dPl p c N) := by
  have p0 := hp.1.1
  have p1 := hp.1.2.1
  have kp : 1 ≤ kN c := by unfold kN; (repeat split) <;> omega
  have N0 := hN.1 0 (by omega) (by omega)
  unfold dOk at hk
  unfold dPl
  by_cases h1 : c = 114
  · have kq : kN c = 2 := by unfold kN; (repeat (first | rw [if_pos (by omega)] | rw [if_neg (by omega)]))
    have N1 := hN.1 1 (by omega) (by omega)
    rw [if_pos h1] at hk ⊢
    split at hk
    · exact pS_put hp (by omega)
    · omega
  rw [if_neg h1] at hk ⊢
  by_cases h2 : c = 116
  · have kq : kN c = 2 := by unfold kN; (repeat (first | rw [if_pos (by omega)] | rw [if_neg (by omega)]))
    have N1 := hN.1 1 (by omega) (by omega)
    have N1b := hN.2.1 (Or.inl h2)
    rw [if_pos h2] at hk ⊢
    split at hk
    · exact pS_train hp (by omega) (by omega) (by omega) (by omega) (by omega)
    · omega
  rw [if_neg h2] at hk ⊢
  by_cases h3 : c = 112
  · have kq : kN c = 5 := by unfold kN; (repeat (first | rw [if_pos (by omega)] | rw [if_neg (by omega)]))
    have N1 := hN.1 1 (by omega) (by omega)
    have N2 := hN.1 2 (by omega) (by omega)
    have N3 := hN.1 3 (by omega) (by omega)
    have N4 := hN.1 4 (by omega) (by omega)
    have N1b := hN.2.1 (Or.inr h3)
    rw [if_pos h3] at hk ⊢
    split at hk
    · exact pS_person hp (by omega) (by omega) (by omega) (by omega) (by omega) (by omega) (by omega)
    · omega
  rw [if_neg h3] at hk ⊢
  by_cases h4 : c = 108
  · rw [if_pos h4] at hk ⊢
    split at hk
    · exact pS_put hp (by omega)
    · omega
  rw [if_neg h4] at hk ⊢
  by_cases h5 : c = 103
  · rw [if_pos h5] at hk ⊢
    split at hk
    · exact pS_put hp (by omega)
    · omega
  rw [if_neg h5] at hk ⊢
  by_cases h6 : c = 115
  · have N0b := hN.2.2 (Or.inl h6)
    rw [if_pos h6]
    exact pS_put hp (by omega)
  rw [if_neg h6]
  by_cases h7 : c = 104
  · have N0b := hN.2.2 (Or.inr h7)
    rw [if_pos h7]
    exact pS_put hp (by omega)
  rw [if_neg h7]
  rw [if_neg (by omega)] at hk
  split at hk
  · rename_i q
    have m0 := hp.1.2.2.1
    have m1 := hp.1.2.2.2.1
    have l := zxb_lt m0 hp.2.2.2.2 q.1 q.2 p1
    have l0 := zxb4 m0 m1 q.1 (by omega)
    exact pS_put hp (by omega)
  · omega
theorem nd_sub {X : Int → Int} {b : Int} {m dg t : Nat} (ht : sFst (nd X b) t = t) (hn : m + dg ≤ t) : sFst (nd X (b + m)) dg = dg := by
  have em : sFst (nd X b) m = m := by
    have l := sFst_in (W := nd X b) m
    have f := fun q => sFst_fix (W := nd X b) (c := m) q (t - m)
    by_cases q : sFst (nd X b) m < m
    · have := f q
      rw [show m + (t - m) = t by omega] at this
      omega
    · omega
  have l := sFst_in (W := nd X (b + m)) dg
  by_cases q : sFst (nd X (b + m)) dg = dg
  · exact q
  · have := nd_f em q hn
    omega
theorem nN_R {X : Int → Int} {a : Int} (hf : fB1 X a = -1) (a0 : 0 ≤ a) : nR (X a) (nN X a) := by
  have l := sFst_in (W := nd X (a + 1)) (dgs (X a))
  have ht : ¬ dgs (X a) = 0 ∧ sFst (nd X (a + 1)) (dgs (X a)) = dgs (X a) := by
    unfold fB1 at hf
    split at hf
    · omega
    · split at hf
      · omega
      · exact ⟨by assumption, by omega⟩
  obtain ⟨h0, ht⟩ := ht
  have nn : ∀ (m dg : Nat), m + dg ≤ dgs (X a) → 0 ≤ nm X (a + 1 + (m : Int)) dg ∧ nm X (a + 1 + (m : Int)) dg < ((10 ^ dg : Nat) : Int) := fun m dg hm => nm_in dg (nd_sub ht hm)
  have nn0 : ∀ dg : Nat, dg ≤ dgs (X a) → 0 ≤ nm X (a + 1) dg ∧ nm X (a + 1) dg < ((10 ^ dg : Nat) : Int) := fun dg hm => by
    have := nn 0 dg (by omega)
    rw [show a + 1 + ((0 : Nat) : Int) = a + 1 by omega] at this
    exact this
  have t1 : ((10 ^ 1 : Nat) : Int) = 10 := rfl
  have t2 : ((10 ^ 2 : Nat) : Int) = 100 := rfl
  have t3 : ((10 ^ 3 : Nat) : Int) = 1000 := rfl
  unfold nR
  by_cases h1 : X a = 114
  · have hd : dgs (X a) = 3 := by unfold dgs; (repeat (first | rw [if_pos (by omega)] | rw [if_neg (by omega)]))
    have q1 := nn0 1 (by omega)
    have q2 := nn 1 2 (by omega)
    refine ⟨fun i _ _ => ?_, by omega, by omega⟩
    unfold nN
    rw [if_pos h1]
    split
    · omega
    · rw [show a + 1 + ((1 : Nat) : Int) = a + 1 + 1 by omega] at q2
      omega
  by_cases h2 : X a = 116
  · have hd : dgs (X a) = 4 := by unfold dgs; (repeat (first | rw [if_pos (by omega)] | rw [if_neg (by omega)]))
    have q1 := nn0 3 (by omega)
    have q2 := nn 3 1 (by omega)
    rw [show a + 1 + ((3 : Nat) : Int) = a + 1 + 3 by omega] at q2
    refine ⟨fun i _ _ => ?_, fun _ => ?_, by omega⟩
    · unfold nN
      rw [if_neg h1, if_pos h2]
      split <;> omega
    · unfold nN
      rw [if_neg h1, if_pos h2, if_neg (by omega)]
      omega
  by_cases h3 : X a = 112
  · have hd : dgs (X a) = 7 := by unfold dgs; (repeat (first | rw [if_pos (by omega)] | rw [if_neg (by omega)]))
    have hk : kN (X a) = 5 := by unfold kN; (repeat (first | rw [if_pos (by omega)] | rw [if_neg (by omega)]))
    have q4 := nn 4 3 (by omega)
    rw [show a + 1 + ((4 : Nat) : Int) = a + 1 + 4 by omega] at q4
    have qi : ∀ i : Int, 0 ≤ i → i < 4 → 0 ≤ nm X (a + 1 + i) 1 ∧ nm X (a + 1 + i) 1 < 10 := fun i i0 i1 => by
      have := nn i.toNat 1 (by omega)
      rw [show a + 1 + ((i.toNat : Nat) : Int) = a + 1 + i by omega] at this
      omega
    refine ⟨fun i i0 i1 => ?_, fun _ => ?_, by omega⟩
    · unfold nN
      rw [if_neg h1, if_neg h2, if_pos h3]
      split
      · omega
      · have := qi i i0 (by omega)
        omega
    · unfold nN
      have := qi 1 (by omega) (by omega)
      rw [if_neg h1, if_neg h2, if_pos h3, if_neg (by omega)]
      omega
  by_cases h4 : X a = 108 ∨ X a = 103
  · have hd : dgs (X a) = 2 := by unfold dgs; (repeat (first | rw [if_pos (by omega)] | rw [if_neg (by omega)]))
    have q1 := nn0 2 (by omega)
    refine ⟨fun i _ _ => ?_, by omega, by omega⟩
    unfold nN
    rw [if_neg h1, if_neg h2, if_neg h3, if_pos h4]
    omega
  · have q1 := nn0 1 (by omega)
    have ev : ∀ i, nN X a i = nm X (a + 1) 1 := fun i => by
      unfold nN
      rw [if_neg h1, if_neg h2, if_neg h3, if_neg h4]
    refine ⟨fun i _ _ => ?_, by omega, fun _ => ?_⟩
    · rw [ev]
      omega
    · rw [ev]
      omega
theorem dOk_cg {p N N2 : Int → Int} {c : Int} (h : ∀ i, 0 ≤ i → i < kN c → N i = N2 i) : dOk p c N = dOk p c N2 := by
  have kp : 1 ≤ kN c := by unfold kN; (repeat split) <;> omega
  have N0 := h 0 (by omega) (by omega)
  unfold dOk
  rw [N0]
  by_cases h1 : c = 114 ∨ c = 116
  · have kq : kN c = 2 := by unfold kN; (repeat (first | rw [if_pos (by omega)] | rw [if_neg (by omega)]))
    have N1 := h 1 (by omega) (by omega)
    rcases h1 with e | e
    · rw [if_pos e, if_pos e, N1]
    · rw [if_neg (show ¬ c = 114 by omega), if_pos e, if_neg (show ¬ c = 114 by omega), if_pos e]
  · by_cases h3 : c = 112
    · have kq : kN c = 5 := by unfold kN; (repeat (first | rw [if_pos (by omega)] | rw [if_neg (by omega)]))
      have N2 := h 2 (by omega) (by omega)
      have N3 := h 3 (by omega) (by omega)
      have N4 := h 4 (by omega) (by omega)
      rw [if_neg (show ¬ c = 114 by omega), if_neg (show ¬ c = 116 by omega), if_pos h3, if_neg (show ¬ c = 114 by omega), if_neg (show ¬ c = 116 by omega), if_pos h3, N2, N3, N4]
    · rw [if_neg (show ¬ c = 114 by omega), if_neg (show ¬ c = 116 by omega), if_neg (show ¬ c = 112 by omega), if_neg (show ¬ c = 114 by omega), if_neg (show ¬ c = 116 by omega), if_neg (show ¬ c = 112 by omega)]
theorem dPl_cg {p N N2 : Int → Int} {c : Int} (h : ∀ i, 0 ≤ i → i < kN c → N i = N2 i) : dPl p c N = dPl p c N2 := by
  have kp : 1 ≤ kN c := by unfold kN; (repeat split) <;> omega
  have N0 := h 0 (by omega) (by omega)
  unfold dPl
  rw [N0]
  by_cases h1 : c = 114 ∨ c = 116
  · have kq : kN c = 2 := by unfold kN; (repeat (first | rw [if_pos (by omega)] | rw [if_neg (by omega)]))
    have N1 := h 1 (by omega) (by omega)
    rcases h1 with e | e
    · rw [if_pos e, if_pos e, N1]
    · rw [if_neg (show ¬ c = 114 by omega), if_pos e, if_neg (show ¬ c = 114 by omega), if_pos e, N1]
  · by_cases h3 : c = 112
    · have kq : kN c = 5 := by unfold kN; (repeat (first | rw [if_pos (by omega)] | rw [if_neg (by omega)]))
      rw [if_neg (show ¬ c = 114 by omega), if_neg (show ¬ c = 116 by omega), if_pos h3, if_neg (show ¬ c = 114 by omega), if_neg (show ¬ c = 116 by omega), if_pos h3]
      funext j
      by_cases e : j = 6
      · rw [if_pos e, if_pos e]
      · rw [if_neg e, if_neg e]
        by_cases q : 19 + 5 * p 6 ≤ j ∧ j < 19 + 5 * p 6 + 5
        · rw [if_pos q, if_pos q, h _ (by omega) (by omega)]
        · rw [if_neg q, if_neg q]
    · rw [if_neg (show ¬ c = 114 by omega), if_neg (show ¬ c = 116 by omega), if_neg (show ¬ c = 112 by omega), if_neg (show ¬ c = 114 by omega), if_neg (show ¬ c = 116 by omega), if_neg (show ¬ c = 112 by omega)]
theorem fB1_in {X : Int → Int} {a : Int} (a0 : 0 ≤ a) : fB1 X a = -1 ∨ (a ≤ fB1 X a ∧ fB1 X a ≤ a + 8) := by
  have l := sFst_in (W := nd X (a + 1)) (dgs (X a))
  have d : dgs (X a) ≤ 7 := by unfold dgs; (repeat' split) <;> omega
  unfold fB1
  (repeat' split) <;> omega
/-- the first bad place; how many statements; what comes of them all -/
def fB (X : Int → Int) (sz : Int) : Nat → Int → Int
  | 0, _ => -1
  | c + 1, a => if fB1 X a = -1 then (if a + dgs (X a) + 2 < sz then fB X sz c (a + dgs (X a) + 2) else -1) else fB1 X a
def cN (X : Int → Int) (sz : Int) : Nat → Int → Int
  | 0, _ => 0
  | c + 1, a => 1 + (if a + dgs (X a) + 2 < sz then cN X sz c (a + dgs (X a) + 2) else 0)
def tl (X : Int → Int) (sz : Int) : Nat → Int → (Int → Int) → Int × (Int → Int)
  | 0, _, p => (0, p)
  | c + 1, a, p => if a < sz then (if dOk p (X a) (nN X a) = 1 then tl X sz c (a + dgs (X a) + 2) (dPl p (X a) (nN X a)) else (-2000 - a, p)) else (0, p)
theorem dOk_01 {p N : Int → Int} {c : Int} : dOk p c N = 0 ∨ dOk p c N = 1 := by
  unfold dOk
  (repeat' split) <;> omega
