/-! the class: mornings -/
theorem lp_mor51 {E : zE} {d : Nat} {k : Nat → Nat × Nat} {h : Nat → Int → Int} {r : Nat → Int → Option Nat} {l : Nat → Nat → Int64} {n : Nat} {Q : zQ} {p : Int → Int} (hs : pS p) (hR : cR 4 5 6 7 8 9 10 11 12 13 k h r n p (-4)) {a z b : Int} {c0 : Nat} {A M : Option Value} (hA : znl A = true) (hM : znl M = true) (hX : ∀ (g : Nat → Int → Int) (r9 : Nat → Int → Option Nat) (q : Int → Int) (u : Option Value), znl u = true → cT h g ∧ (∀ b, ¬ b = 16 → r9 b = r b) ∧ cR 15 16 17 18 19 20 21 22 23 24 k g r9 n q (-4) ∧ (∀ j : Int, ¬ (23 ≤ j ∧ j % 5 = 3 ∧ (j - 23) / 5 < p 6) → q j = p j) ∧ (∀ s : Int, 0 ≤ s → s < p 6 → q (23 + 5 * s) = p (23 + 5 * s) + sdD (mS z (c0 + s.toNat + 1))) → zGo E (d + 10) M_X11_mornings 0 0 Q 115 ([some (.ref 3), some (.int (iI (a))), some (.int (iI (z))), some (.int (iI (b))), some (.int (iI (mS z (c0 + (p 6).toNat)))), A, M, u], [], zJ (k, g, r9, l, n), 0, 0)) : ∀ c : Nat, ∀ (m : Nat) (g : Nat → Int → Int) (r9 : Nat → Int → Option Nat) (q : Int → Int), cT h g ∧ (∀ b, ¬ b = 16 → r9 b = r b) ∧ cR 15 16 17 18 19 20 21 22 23 24 k g r9 n q (-4) ∧ (∀ j : Int, ¬ (23 ≤ j ∧ j % 5 = 3 ∧ (j - 23) / 5 < p 6) → q j = p j) ∧ (∀ s : Int, 0 ≤ s → s < (m : Int) → q (23 + 5 * s) = p (23 + 5 * s) + sdD (mS z (c0 + s.toNat + 1))) → (p 6).toNat < m + c → m ≤ (p 6).toNat → zGo E (d + 10) M_X11_mornings 0 0 Q 51 ([some (.ref 3), some (.int (iI (a))), some (.int (iI (z))), some (.int (iI (b))), some (.int (iI (mS z (c0 + m)))), A, M, some (.int (iI ((m : Int))))], [], zJ (k, g, r9, l, n), 0, 0) := by
  have ok := ok_X11_mornings
  intro c
  induction c with
  | zero =>
    intros
    omega
  | succ c ih =>
    intro m g r9 q ⟨i1, i2, i3, i4, i5⟩ g1 g2
    have hp := hs.1
    have hft := hs.2.2.2.1
    have p60 := hp.2.2.2.2.2.2.2.2.2.2.2.2.1
    have p68 := hp.2.2.2.2.2.2.2.2.2.2.2.2.2.1
    have p00 := hp.1
    have p04 := hp.2.1
    have hf : ∀ q : Int, 0 ≤ q → q < p 6 → ¬ pFr p q = 4 := fun q q0 q1 => by have := pOf_gt hp q0 (by omega) (hft q q0 q1); omega
    refine s_ldI7 ok rfl ?_
    refine s_ldA0 ok rfl ?_
    refine s_getF ok rfl rfl rfl rfl ?_
    refine s_getJ 0 ok rfl rfl rfl rfl ?_
    rw [show g 4 0 = p 6 from (congrFun (i1 4 (by omega)) 0).trans (cR4_n hR)]
    refine s_c_ge ok rfl ⟨by omega, by omega⟩ ⟨by omega, by omega⟩ (fun c60 => ?_) (fun c60 => ?_)
    · have em : (m : Int) = p 6 := by omega
      rw [show c0 + m = c0 + (p 6).toNat by omega]
      exact hX g r9 q (some (.int (iI (m : Int)))) rfl ⟨i1, i2, i3, i4, fun s s0 s1 => i5 s s0 (by omega)⟩
    · obtain ⟨v8, hv8, wv8, h28, h38, h48⟩ := cR4_one hR (t := (m : Int)) (by omega) (by omega)
      refine s_ldI4 ok rfl ?_
      refine s_ci ok rfl ?_
      refine s_mul ok rfl ?_
      refine s_ci ok rfl ?_
      refine s_add ok rfl ?_
      rw [show mS z (c0 + m) * 1103515245 + 12345 = mS z (c0 + m + 1) from rfl]
      refine s_stI4 ok rfl rfl ?_
      refine s_ldA0 ok rfl ?_
      refine s_getF ok rfl rfl rfl rfl ?_
      refine s_getF ok rfl rfl rfl rfl ?_
      refine s_ldI7 ok rfl ?_
      refine s_ldA0 ok rfl ?_
      refine s_getF ok rfl rfl rfl rfl ?_
      refine s_getF ok rfl rfl rfl rfl ?_
      refine s_ldI7 ok rfl ?_
      refine s_iald ok rfl (by exact rfl) (by exact rfl) (by omega) (by omega) ?_
      rw [show g 8 (m : Int) = pBa p (m : Int) from (congrFun (i1 8 (by omega)) _).trans h48]
      refine s_ldI4 ok rfl ?_
      obtain ⟨sb0, sb1⟩ := sdB_in (mS z (c0 + m + 1))
      have sb2 := sb1
      unfold zb at sb2
      refine s_ci ok rfl ?_
      refine s_bin ok rfl (sdB_is _) ?_
      refine s_ci ok rfl ?_
      refine s_div ok rfl sb1 ⟨by omega, by omega⟩ (by omega) (by omega) ?_
      refine s_ci ok rfl ?_
      refine s_rem ok rfl ⟨by omega, by omega⟩ ⟨by omega, by omega⟩ (by omega) (by omega) ?_
      refine s_add ok rfl ?_
      refine s_iast ok rfl (by exact rfl) (by exact rfl) (by omega) (by omega) (fun q => by cases q) ?_
      refine s_inc7 ok rfl hM ?_
      refine s_goto ok rfl ?_
      rw [show sdB (mS z (c0 + m + 1)) / 65536 % 10 = sdD (mS z (c0 + m + 1)) from rfl]
      have z9 := cR15_base i3 (x := (m : Int)) (v := pBa p (m : Int) + sdD (mS z (c0 + m + 1))) (by omega) (by rw [i4 0 (by omega)]; exact p04)
      rw [sg_4] at z9
      have nx := ih (m + 1) (zv g 19 (m : Int) (pBa p (m : Int) + sdD (mS z (c0 + m + 1)))) r9 _ ⟨fun b hb => (zv_other (by omega)).trans (i1 b hb), i2, z9, fun j hj => (zp_ne (by omega)).trans (i4 j hj), fun s s0 s1 => ?_⟩ (by omega) (by omega)
      · exact nx
      · by_cases es : s = (m : Int)
        · rw [es, show (23 : Int) + 5 * (m : Int) = 19 + 5 * (m : Int) + 4 by omega, zp_at, show c0 + (m : Int).toNat + 1 = c0 + m + 1 by omega]
          rfl
        · exact (zp_ne (by omega)).trans (i5 s s0 (by omega))
theorem lp_mor42 {E : zE} {d : Nat} {k : Nat → Nat × Nat} {h : Nat → Int → Int} {r : Nat → Int → Option Nat} {l : Nat → Nat → Int64} {n : Nat} {p : Int → Int} (hs : pS p) (hR : cR 4 5 6 7 8 9 10 11 12 13 k h r n p (-4)) {a z b : Int} (z2 : zb b) (a1 : a ≤ 20) (a0 : 1 ≤ a) : ∀ c : Nat, ∀ (m : Nat) (g : Nat → Int → Int) (r9 : Nat → Int → Option Nat) (q : Int → Int) (u : Option Value), znl u = true → cT h g ∧ (∀ b, ¬ b = 16 → r9 b = r b) ∧ cR 15 16 17 18 19 20 21 22 23 24 k g r9 n q (-4) ∧ (∀ j : Int, ¬ (23 ≤ j ∧ j % 5 = 3 ∧ (j - 23) / 5 < p 6) → q j = p j) → a.toNat < m + c → m ≤ a.toNat → zGo E (d + 10) M_X11_mornings 0 0 (zVx (.int (iI (if b = 0 then mMo p (-4) 3 z a.toNat else a * p 6 - mMo p (-4) 3 z a.toNat))) (fun s => ∃ g r9, s = zJ (k, g, r9, l, n) ∧ cT h g ∧ (∀ q, ¬ q = 16 → r9 q = r q))) 42 ([some (.ref 3), some (.int (iI (a))), some (.int (iI (z))), some (.int (iI (b))), some (.int (iI (mS z (m * (p 6).toNat)))), some (.int (iI (mMo p (-4) 3 z m))), some (.int (iI ((m : Int)))), u], [], zJ (k, g, r9, l, n), 0, 0) := by
  have ok := ok_X11_mornings
  intro c
  induction c with
  | zero =>
    intros
    omega
  | succ c ih =>
    intro m g r9 q u hu9 ⟨i1, i2, i3, i4⟩ g1 g2
    have hp := hs.1
    have hft := hs.2.2.2.1
    have p60 := hp.2.2.2.2.2.2.2.2.2.2.2.2.1
    have p68 := hp.2.2.2.2.2.2.2.2.2.2.2.2.2.1
    have p00 := hp.1
    have p04 := hp.2.1
    have hf : ∀ q : Int, 0 ≤ q → q < p 6 → ¬ pFr p q = 4 := fun q q0 q1 => by have := pOf_gt hp q0 (by omega) (hft q q0 q1); omega
    refine s_ldI6 ok rfl ?_
    refine s_ldI1 ok rfl ?_
    refine s_c_ge ok rfl ⟨by omega, by omega⟩ ⟨by omega, by omega⟩ (fun c45 => ?_) (fun c45 => ?_)
    · refine s_ldI3 ok rfl ?_
      refine s_if_eq ok rfl z2 (fun c146 => ?_) (fun c146 => ?_)
      · refine s_ldI5 ok rfl ?_
        refine s_goto ok rfl ?_
        have em : m = a.toNat := by omega
        subst em
        first
          | exact s_retI ok rfl ⟨congrArg (fun z => some (Value.int (iI z))) (if_pos c146).symm, g, r9, rfl, i1, i2⟩
          | exact s_retI ok rfl ⟨congrArg (fun z => some (Value.int (iI z))) (by rw [if_neg c146]; rw [show g 4 0 = p 6 from (congrFun (i1 4 (by omega)) 0).trans (cR4_n hR)]), g, r9, rfl, i1, i2⟩
      · refine s_ldI1 ok rfl ?_
        refine s_ldA0 ok rfl ?_
        refine s_getF ok rfl rfl rfl rfl ?_
        refine s_getJ 0 ok rfl rfl rfl rfl ?_
        refine s_mul ok rfl ?_
        refine s_ldI5 ok rfl ?_
        refine s_sub ok rfl ?_
        have em : m = a.toNat := by omega
        subst em
        first
          | exact s_retI ok rfl ⟨congrArg (fun z => some (Value.int (iI z))) (if_pos c146).symm, g, r9, rfl, i1, i2⟩
          | exact s_retI ok rfl ⟨congrArg (fun z => some (Value.int (iI z))) (by rw [if_neg c146]; rw [show g 4 0 = p 6 from (congrFun (i1 4 (by omega)) 0).trans (cR4_n hR)]), g, r9, rfl, i1, i2⟩
    · refine s_ci ok rfl ?_
      refine s_stI7 ok rfl rfl ?_
      refine lp_mor51 (E := E) (d := d) (k := k) (h := h) (r := r) (l := l) (n := n) hs hR (a := a) (z := z) (b := b) (c0 := m * (p 6).toNat) rfl rfl (fun g7 r7 q7 u7 hu7 hi7 => ?_) ((p 6).toNat + 1) 0 g r9 q ⟨i1, i2, i3, i4, fun s s0 s1 => by omega⟩ (by omega) (by omega)
      obtain ⟨j1, j2, j3, j4, j5⟩ := hi7
      have eq9 : q7 = (pMo p z (m * (p 6).toNat)) := by
        funext j
        unfold pMo
        by_cases hj : (23 ≤ j ∧ j % 5 = 3 ∧ (j - 23) / 5 < p 6)
        · rw [if_pos hj]
          have e := j5 ((j - 23) / 5) (by omega) (by omega)
          rw [show (23 : Int) + 5 * ((j - 23) / 5) = j by omega] at e
          exact e
        · rw [if_neg hj]
          exact j4 j hj
      subst eq9
      have hp9 : pOK (pMo p z (m * (p 6).toNat)) := pMo_ok hp hs.2.1 z _
      have ew : ∀ j : Int, ¬ (23 ≤ j ∧ j % 5 = 3) → (pMo p z (m * (p 6).toNat)) j = p j := fun j hj => if_neg (fun y => hj ⟨y.1, y.2.1⟩)
      have e69 : (pMo p z (m * (p 6).toNat)) 6 = p 6 := ew 6 (by omega)
      have hft9 : ∀ u : Int, 0 ≤ u → u < (pMo p z (m * (p 6).toNat)) 6 → pFr (pMo p z (m * (p 6).toNat)) u < pTo (pMo p z (m * (p 6).toNat)) u := fun u u0 u1 => by
        rw [show pFr (pMo p z (m * (p 6).toNat)) u = pFr p u from ew _ (by omega), show pTo (pMo p z (m * (p 6).toNat)) u = pTo p u from ew _ (by omega)]
        exact hft u u0 (by omega)
      have hf9 : ∀ u : Int, 0 ≤ u → u < (pMo p z (m * (p 6).toNat)) 6 → ¬ pFr (pMo p z (m * (p 6).toNat)) u = 4 := fun u u0 u1 => by have := pOf_gt hp9 u0 (by omega) (hft9 u u0 u1); omega
      refine s_ldA0 ok rfl ?_
      refine s_getF ok rfl rfl rfl rfl ?_
      refine s_ldA0 ok rfl ?_
      refine s_getF ok rfl rfl rfl rfl ?_
      refine s_ci ok rfl ?_
      refine s_callVvx ok rfl rfl rfl rfl rfl rfl (ct_go15 (d := d + 1) (p := (pMo p z (m * (p 6).toNat))) (w := -4) (dd := 3) hp9 (Or.inr rfl) (Or.inl rfl) hf9 j3) (fun σ124 hσ124 => ?_)
      obtain ⟨g124, rfl, hg124⟩ := hσ124
      obtain ⟨gf124, -, gC124, gT124, gS124⟩ := hg124
      have D124 := tD_of hp9 (Or.inl rfl) hft9 gT124 gS124
      have e37124 : g124 37 6 = (pMo p z (m * (p 6).toNat)) 6 := gC124.1.trans cnP_4
      have hz124 : ∀ s : Int, 0 ≤ s → s < (pMo p z (m * (p 6).toNat)) 6 → zb (g124 44 s) := fun s s0 s1 => by
        rw [(tD_one D124 s0 s1).1]
        split
        · exact ⟨by omega, by omega⟩
        · exact (dN_ok (dd := 3) hp9 (w := -4) ⟨by omega, by omega⟩).2.1 s
      have eA124 : zsum (tO g124) ((pMo p z (m * (p 6).toNat)) 6).toNat = dMn (pMo p z (m * (p 6).toNat)) (-4) 3 := by
        unfold dMn
        refine zsum_cg _ fun s s0 s1 => ?_
        have := (tD_a D124 (t := s) s0 (by rw [cnP_4]; omega)).2.1
        rw [sg_4] at this
        exact this
      refine s_ldI5 ok rfl ?_
      refine s_ldA0 ok rfl ?_
      refine s_getF ok rfl rfl rfl rfl ?_
      refine s_callV ok rfl rfl rfl rfl rfl rfl (ct_arriving9 (h := g124) (cn := ((pMo p z (m * (p 6).toNat)) 6).toNat) (by rw [e37124]; omega) (by omega) (fun s s0 s1 => hz124 s s0 (by omega))) ?_
      rw [eA124]
      refine s_add ok rfl ?_
      refine s_stI5 ok rfl rfl ?_
      refine s_inc6 ok rfl rfl ?_
      refine s_goto ok rfl ?_
      rw [show m * (p 6).toNat + (p 6).toNat = (m + 1) * (p 6).toNat by rw [Nat.add_mul]; omega, show mMo p (-4) 3 z m + dMn (pMo p z (m * (p 6).toNat)) (-4) 3 = mMo p (-4) 3 z (m + 1) from rfl]
      exact ih (m + 1) g124 r7 (pMo p z (m * (p 6).toNat)) u7 hu7 ⟨fun b hb => (gf124 b (by omega)).trans (j1 b hb), j2, cR15_trip j3 gf124, j4⟩ (by omega) (by omega)
theorem ct_mornings11 {E : zE} {d : Nat} {k : Nat → Nat × Nat} {h : Nat → Int → Int} {r : Nat → Int → Option Nat} {l : Nat → Nat → Int64} {n : Nat} {p : Int → Int} (hs : pS p) (hR : cR 4 5 6 7 8 9 10 11 12 13 k h r n p (-4)) {a z b : Int} (za : zb a) (z2 : zb b) : zCT E (d + 10) M_X11_mornings [.ref 3, .int (iI (a)), .int (iI (z)), .int (iI (b))] (zJ (k, h, r, l, n)) 0 0 (zVx (.int (iI (if (1 ≤ a ∧ a ≤ 20) ∧ (0 ≤ b ∧ b ≤ 1) then (if b = 0 then mMo p (-4) 3 z a.toNat else a * p 6 - mMo p (-4) 3 z a.toNat) else -1))) (fun s => ∃ g r9, s = zJ (k, g, r9, l, n) ∧ cT h g ∧ (∀ q, ¬ q = 16 → r9 q = r q))) := by
  have ok := ok_X11_mornings
  refine zCT_of pn_X11_mornings (Nat.le_of_ble_eq_true rfl) ?_
  show zGo _ _ _ _ _ _ 0 ([some (.ref 3), some (.int (iI (a))), some (.int (iI (z))), some (.int (iI (b))), none, none, none, none], [], _, _, _)
  have hp := hs.1
  have hft := hs.2.2.2.1
  have p60 := hp.2.2.2.2.2.2.2.2.2.2.2.2.1
  have p68 := hp.2.2.2.2.2.2.2.2.2.2.2.2.2.1
  have p00 := hp.1
  have p04 := hp.2.1
  have hf : ∀ q : Int, 0 ≤ q → q < p 6 → ¬ pFr p q = 4 := fun q q0 q1 => by have := pOf_gt hp q0 (by omega) (hft q q0 q1); omega
  refine s_ldI1 ok rfl ?_
  refine s_ci ok rfl ?_
  refine s_c_lt ok rfl za ⟨by omega, by omega⟩ (fun c2 => ?_) (fun c2 => ?_)
  · refine s_ci ok rfl ?_
    exact s_retI ok rfl ⟨congrArg (fun z => some (Value.int (iI z))) (if_neg (by omega)).symm, h, r, rfl, fun _ _ => rfl, fun _ _ => rfl⟩
  · refine s_ldI1 ok rfl ?_
    refine s_ci ok rfl ?_
    refine s_c_gt ok rfl za ⟨by omega, by omega⟩ (fun c8 => ?_) (fun c8 => ?_)
    · refine s_ci ok rfl ?_
      exact s_retI ok rfl ⟨congrArg (fun z => some (Value.int (iI z))) (if_neg (by omega)).symm, h, r, rfl, fun _ _ => rfl, fun _ _ => rfl⟩
    · refine s_ldI3 ok rfl ?_
      refine s_if_lt ok rfl z2 (fun c12 => ?_) (fun c12 => ?_)
      · refine s_ci ok rfl ?_
        exact s_retI ok rfl ⟨congrArg (fun z => some (Value.int (iI z))) (if_neg (by omega)).symm, h, r, rfl, fun _ _ => rfl, fun _ _ => rfl⟩
      · refine s_ldI3 ok rfl ?_
        refine s_ci ok rfl ?_
        refine s_c_le ok rfl z2 ⟨by omega, by omega⟩ (fun c17 => ?_) (fun c17 => ?_)
        · have yes : (1 ≤ a ∧ a ≤ 20) ∧ (0 ≤ b ∧ b ≤ 1) := ⟨⟨by omega, by omega⟩, by omega, by omega⟩
          refine s_ldA0 ok rfl ?_
          refine s_getF ok rfl rfl rfl rfl ?_
          refine s_ldA0 ok rfl ?_
          refine s_getF ok rfl rfl rfl rfl ?_
          refine s_callVvx ok rfl rfl rfl rfl rfl rfl (ct_become15_4 (d := d + 8) hR (by rw [cnP_4]; omega) p04) (fun σ30 hσ30 => ?_)
          obtain ⟨g30, r30, rfl, f30, i3, hQ⟩ := hσ30
          refine s_ldI2 ok rfl ?_
          refine s_stI4 ok rfl rfl ?_
          refine s_ci ok rfl ?_
          refine s_stI5 ok rfl rfl ?_
          refine s_ci ok rfl ?_
          refine s_stI6 ok rfl rfl ?_
          rw [if_pos yes]
          have K := lp_mor42 (E := E) (d := d) (k := k) (h := h) (r := r) (l := l) (n := n) hs hR (z := z) z2 yes.1.2 yes.1.1 (a.toNat + 1) 0 g30 r30 p none rfl ⟨fun q hq => f30 q (by omega), i3, hQ, fun _ _ => rfl⟩ (by omega) (by omega)
          rw [Nat.zero_mul] at K
          exact K
        · refine s_ci ok rfl ?_
          exact s_retI ok rfl ⟨congrArg (fun z => some (Value.int (iI z))) (if_neg (by omega)).symm, h, r, rfl, fun _ _ => rfl, fun _ _ => rfl⟩
