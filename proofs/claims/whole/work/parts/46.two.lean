/-! choices, two -/
/-- the plan of the choice c of a and b -/
def pCh (p : Int → Int) (a b c : Int) : Int → Int := zp (zp p (19 + 5 * a + 4) (pBa p a + 5 * (c / 3))) (19 + 5 * b + 4) (pBa p b + 5 * (c % 3))
theorem pCh_ok {p : Int → Int} (hp : pOK p) {a b c : Int} (a0 : 0 ≤ a) (a1 : a < 8) (b0 : 0 ≤ b) (b1 : b < 8) (hb : ∀ s : Int, 0 ≤ s → s < 8 → pBa p s ≤ 300) (c0 : 0 ≤ c) (c1 : c < 9) : pOK (pCh p a b c) := by
  have ea := (hp.2.2.2.2.2.2.2.2.2.2.2.2.2.2.2.2 a a0 a1).2.2.2.2.1
  have eb := (hp.2.2.2.2.2.2.2.2.2.2.2.2.2.2.2.2 b b0 b1).2.2.2.2.1
  have ha := hb a a0 a1
  have hb := hb b b0 b1
  exact pOK_base (pOK_base hp a0 (by omega) (by omega)) b0 (by omega) (by omega)
/-- what stands while the choices are gone through -/
def dCh (h g : Nat → Int → Int) (ia ib : Int) : Prop := (∀ n, n < 63 ∨ 79 < n → ¬ n = 59 → ¬ n = 60 → g n = h n) ∧ (∀ j, ¬ (j = 19 ∨ j = 24 ∨ j = 25 ∨ j = 28) → g 59 j = h 59 j) ∧ (∀ j, ¬ j = ia → ¬ j = ib → g 60 j = h 60 j) ∧ (∀ j, zb (g 69 j)) ∧ (∀ j, zb (g 71 j)) ∧ (∀ p, 0 ≤ p → p < 8 → 0 ≤ g 72 p ∧ g 72 p < 4096) ∧ zb (g 59 17)
theorem dCh_rf {h : Nat → Int → Int} {ia ib : Int} (hd : dP h) : dCh h h ia ib := ⟨fun _ _ _ _ => rfl, fun _ _ => rfl, fun _ _ _ => rfl, hd.2⟩
theorem dCh_60 {h g : Nat → Int → Int} {ia ib va vb : Int} (f : dCh h g ia ib) : zv (zv g 60 ia va) 60 ib vb 60 = zp (zp (h 60) ia va) ib vb := by
  funext j
  show zp (zp (g 60) ia va) ib vb j = _
  unfold zp
  by_cases e : j = ib
  · rw [if_pos e, if_pos e]
  · rw [if_neg e, if_neg e]
    by_cases e2 : j = ia
    · rw [if_pos e2, if_pos e2]
    · rw [if_neg e2, if_neg e2]
      exact f.2.2.1 j e2 e
theorem dCh_in {h g : Nat → Int → Int} {ia ib va vb : Int} (f : dCh h g ia ib) (hp : pOK (zp (zp (h 60) ia va) ib vb)) : dP (zv (zv g 60 ia va) 60 ib vb) := by
  refine ⟨?_, f.2.2.2⟩
  rw [dCh_60 f]
  exact hp
theorem dCh_st {h g g2 : Nat → Int → Int} {ia ib va vb j u v : Int} (f : dCh h g ia ib) (e : dE (zv (zv g 60 ia va) 60 ib vb) g2) : dCh h (zv (zv g2 77 j u) 78 j v) ia ib := by
  refine ⟨fun m h1 h2 h3 => ?_, fun i hi => ?_, fun i h1 h2 => ?_, ?_⟩
  · rw [zv_other (by omega), zv_other (by omega), e.1 m (by omega) h2, zv_other h3, zv_other h3]
    exact f.1 m h1 h2 h3
  · rw [zv_other (by omega), zv_other (by omega), e.2.1 i (by omega), zv_other (by omega), zv_other (by omega)]
    exact f.2.1 i hi
  · rw [zv_other (by omega), zv_other (by omega), e.e60, zv_at h2, zv_at h1]
    exact f.2.2.1 i h1 h2
  · exact e.2.2.2
theorem dCh_end {h g : Nat → Int → Int} {ia ib : Int} (hd : dP h) (hne : ¬ ia = ib) (f : dCh h g ia ib) : dL h (zv (zv g 60 ia (h 60 ia)) 60 ib (h 60 ib)) := by
  have e60 : zv (zv g 60 ia (h 60 ia)) 60 ib (h 60 ib) 60 = h 60 := by
    rw [dCh_60 f]
    funext j
    unfold zp
    by_cases e : j = ib
    · rw [if_pos e, e]
    · rw [if_neg e]
      by_cases e2 : j = ia
      · rw [if_pos e2, e2]
      · rw [if_neg e2]
  refine ⟨fun m h1 h2 => ?_, fun j hj => f.2.1 j hj, ⟨?_, f.2.2.2⟩⟩
  · by_cases c : m = 60
    · rw [c]
      exact e60
    · rw [zv_other c, zv_other c]
      exact f.1 m h1 h2 c
  · rw [e60]
    exact hd.1
theorem lp_choices {E : zE} {d : Nat} {k : Nat → Nat × Nat} {h : Nat → Int → Int} {r : Nat → Int → Option Nat} {l : Nat → Nat → Int64} {n : Nat} {Q : zQ} {p : Int → Int} {w dd : Int} (ep : h 60 = p) (ew : h 59 17 = w) (ed : h 59 18 = dd) (hd : dP h) (h2 : zb dd) {a b : Int} (a0 : 0 ≤ a) (a2 : a < p 6) (b0 : 0 ≤ b) (b2 : b < p 6) (hne : ¬ a = b) (hb : ∀ s : Int, 0 ≤ s → s < 8 → pBa p s ≤ 300) (hX : ∀ g, dCh h g (19 + 5 * a + 4) (19 + 5 * b + 4) → (∀ j : Int, 0 ≤ j → j < 9 → g 77 j = dA (pCh p a b j) w dd a) ∧ (∀ j : Int, 0 ≤ j → j < 9 → g 78 j = dA (pCh p a b j) w dd b) → zGo E (d + 7) M_X12_choices 0 0 Q 100 ([some (.ref 59), some (.int (iI (a))), some (.int (iI (b))), some (.int (iI (pBa p a))), some (.int (iI (pBa p b))), some (.int (iI (((9 : Nat) : Int))))], [], zJ (k, g, r, l, n), 0, 0)) : ∀ c : Nat, ∀ (m : Nat) (g : Nat → Int → Int), dCh h g (19 + 5 * a + 4) (19 + 5 * b + 4) → (∀ j : Int, 0 ≤ j → j < (m : Int) → g 77 j = dA (pCh p a b j) w dd a) ∧ (∀ j : Int, 0 ≤ j → j < (m : Int) → g 78 j = dA (pCh p a b j) w dd b) → 9 < m + c → m ≤ 9 → zGo E (d + 7) M_X12_choices 0 0 Q 16 ([some (.ref 59), some (.int (iI (a))), some (.int (iI (b))), some (.int (iI (pBa p a))), some (.int (iI (pBa p b))), some (.int (iI ((m : Int))))], [], zJ (k, g, r, l, n), 0, 0) := by
  have ok := ok_X12_choices
  intro c
  induction c with
  | zero =>
    intros
    omega
  | succ c ih =>
    intro m g f tb g1 g2
    subst ep
    subst ew
    subst ed
    have p6 := hd.1.2.2.2.2.2.2.2.2.2.2.2.2.2.1
    have a1 : a < 8 := by omega
    have b1 : b < 8 := by omega
    refine s_ldI5 ok rfl ?_
    refine s_ci ok rfl ?_
    refine s_c_ge ok rfl (by first | exact hb _ _ | exact ⟨by omega, by omega⟩) (by first | exact hb _ _ | exact ⟨by omega, by omega⟩) (fun c20 => ?_) (fun c20 => ?_)
    · rw [show m = 9 by omega] at tb ⊢
      exact hX g f tb
    · have m9 : m < 9 := by omega
      have pO := pCh_ok (c := (m : Int)) hd.1 a0 a1 b0 b1 hb (by omega) (by omega)
      have hd9 : dP (zv (zv g 60 (19 + 5 * a + 4) (pBa (h 60) a + 5 * ((m : Int) / 3))) 60 (19 + 5 * b + 4) (pBa (h 60) b + 5 * ((m : Int) % 3))) := dCh_in f pO
      have e60 : (zv (zv g 60 (19 + 5 * a + 4) (pBa (h 60) a + 5 * ((m : Int) / 3))) 60 (19 + 5 * b + 4) (pBa (h 60) b + 5 * ((m : Int) % 3))) 60 = pCh (h 60) a b m := dCh_60 f
      have e17 : (zv (zv g 60 (19 + 5 * a + 4) (pBa (h 60) a + 5 * ((m : Int) / 3))) 60 (19 + 5 * b + 4) (pBa (h 60) b + 5 * ((m : Int) % 3))) 59 17 = h 59 17 := f.2.1 17 (by omega)
      have e18 : (zv (zv g 60 (19 + 5 * a + 4) (pBa (h 60) a + 5 * ((m : Int) / 3))) 60 (19 + 5 * b + 4) (pBa (h 60) b + 5 * ((m : Int) % 3))) 59 18 = h 59 18 := f.2.1 18 (by omega)
      obtain ⟨fE, fD⟩ := dE_goes hd9
      rw [e60, e17, e18] at fD
      have q6 : pCh (h 60) a b m 6 = h 60 6 := (zp_ne (by omega)).trans (zp_ne (by omega))
      have eA := fD.A a0 (by omega)
      have eB := fD.A b0 (by omega)
      refine s_ldA0 ok rfl ?_
      refine s_getF ok rfl rfl rfl rfl ?_
      refine s_ci ok rfl ?_
      refine s_ci ok rfl ?_
      refine s_ldI1 ok rfl ?_
      refine s_mul ok rfl ?_
      refine s_add ok rfl ?_
      refine s_ci ok rfl ?_
      refine s_add ok rfl ?_
      refine s_ldI3 ok rfl ?_
      refine s_ci ok rfl ?_
      refine s_ldI5 ok rfl ?_
      refine s_ci ok rfl ?_
      refine s_div ok rfl (by first | exact hb _ _ | exact ⟨by omega, by omega⟩) (by first | exact hb _ _ | exact ⟨by omega, by omega⟩) (by omega) (by omega) ?_
      refine s_mul ok rfl ?_
      refine s_add ok rfl ?_
      refine s_iast ok rfl (by exact rfl) (by exact rfl) (by omega) (by omega) (fun q => by cases q) ?_
      refine s_ldA0 ok rfl ?_
      refine s_getF ok rfl rfl rfl rfl ?_
      refine s_ci ok rfl ?_
      refine s_ci ok rfl ?_
      refine s_ldI2 ok rfl ?_
      refine s_mul ok rfl ?_
      refine s_add ok rfl ?_
      refine s_ci ok rfl ?_
      refine s_add ok rfl ?_
      refine s_ldI4 ok rfl ?_
      refine s_ci ok rfl ?_
      refine s_ldI5 ok rfl ?_
      refine s_ci ok rfl ?_
      refine s_rem ok rfl (by first | exact hb _ _ | exact ⟨by omega, by omega⟩) (by first | exact hb _ _ | exact ⟨by omega, by omega⟩) (by omega) (by omega) ?_
      refine s_mul ok rfl ?_
      refine s_add ok rfl ?_
      refine s_iast ok rfl (by exact rfl) (by exact rfl) (by omega) (by omega) (fun q => by cases q) ?_
      refine s_ldA0 ok rfl ?_
      refine s_callVv ok rfl rfl rfl rfl rfl rfl (ct_goes (h := (zv (zv g 60 (19 + 5 * a + 4) (pBa (h 60) a + 5 * ((m : Int) / 3))) 60 (19 + 5 * b + 4) (pBa (h 60) b + 5 * ((m : Int) % 3)))) (by exact hd9) (by show zb ((zv (zv g 60 (19 + 5 * a + 4) (pBa (h 60) a + 5 * ((m : Int) / 3))) 60 (19 + 5 * b + 4) (pBa (h 60) b + 5 * ((m : Int) % 3))) 59 18); rw [e18]; exact h2)) ?_
      refine s_ldA0 ok rfl ?_
      refine s_getF ok rfl rfl rfl rfl ?_
      refine s_ldI5 ok rfl ?_
      refine s_ldA0 ok rfl ?_
      refine s_ldI1 ok rfl ?_
      refine s_callV ok rfl rfl rfl rfl rfl rfl (ct_arrives (dE_goes hd9).1.2.2.2.2.1 a0 a1) ?_
      rw [eA]
      refine s_iast ok rfl (by exact rfl) (by exact rfl) (by omega) (by omega) (fun q => by cases q) ?_
      have eC : zAr (zv (sGoes (zv (zv g 60 (19 + 5 * a + 4) (pBa (h 60) a + 5 * ((m : Int) / 3))) 60 (19 + 5 * b + 4) (pBa (h 60) b + 5 * ((m : Int) % 3)))) 77 (m : Int) (dA (pCh (h 60) a b m) (h 59 17) (h 59 18) a)) b = dA (pCh (h 60) a b m) (h 59 17) (h 59 18) b := eB
      refine s_ldA0 ok rfl ?_
      refine s_getF ok rfl rfl rfl rfl ?_
      refine s_ldI5 ok rfl ?_
      refine s_ldA0 ok rfl ?_
      refine s_ldI2 ok rfl ?_
      refine s_callV ok rfl rfl rfl rfl rfl rfl (ct_arrives (by exact (dE_goes hd9).1.2.2.2.2.1) b0 b1) ?_
      rw [eC]
      refine s_iast ok rfl (by exact rfl) (by exact rfl) (by omega) (by omega) (fun q => by cases q) ?_
      refine s_inc5 ok rfl rfl ?_
      refine s_goto ok rfl ?_
      refine ih (m + 1) _ (dCh_st f fE) ⟨fun j j0 j1 => ?_, fun j j0 j1 => ?_⟩ (by omega) (by omega)
      · rw [zv_other (by omega)]
        by_cases e : j = m
        · rw [e, zv_is]
        · rw [zv_at e, fE.1 77 (by omega) (by omega)]
          exact tb.1 j j0 (by omega)
      · by_cases e : j = m
        · rw [e, zv_is]
        · rw [zv_at e, zv_other (by omega), fE.1 78 (by omega) (by omega)]
          exact tb.2 j j0 (by omega)
theorem ct_choices {E : zE} {d : Nat} {k : Nat → Nat × Nat} {h : Nat → Int → Int} {r : Nat → Int → Option Nat} {l : Nat → Nat → Int64} {n : Nat} {p : Int → Int} {w dd : Int} (ep : h 60 = p) (ew : h 59 17 = w) (ed : h 59 18 = dd) (hd : dP h) (h2 : zb dd) {a b : Int} (a0 : 0 ≤ a) (a2 : a < p 6) (b0 : 0 ≤ b) (b2 : b < p 6) (hne : ¬ a = b) (hb : ∀ s : Int, 0 ≤ s → s < 8 → pBa p s ≤ 300) : zCT E (d + 7) M_X12_choices [.ref 59, .int (iI (a)), .int (iI (b))] (zJ (k, h, r, l, n)) 0 0 (zUx (zG k r l n (fun g => dL h g ∧ (∀ j : Int, 0 ≤ j → j < 9 → g 77 j = dA (pCh p a b j) w dd a) ∧ (∀ j : Int, 0 ≤ j → j < 9 → g 78 j = dA (pCh p a b j) w dd b)))) := by
  have ok := ok_X12_choices
  refine zCT_of pn_X12_choices (Nat.le_of_ble_eq_true rfl) ?_
  show zGo _ _ _ _ _ _ 0 ([some (.ref 59), some (.int (iI (a))), some (.int (iI (b))), none, none, none], [], _, _, _)
  subst ep
  subst ew
  subst ed
  have p6 := hd.1.2.2.2.2.2.2.2.2.2.2.2.2.2.1
  have a1 : a < 8 := by omega
  have b1 : b < 8 := by omega
  refine s_ldA0 ok rfl ?_
  refine s_ldI1 ok rfl ?_
  refine s_callV ok rfl rfl rfl rfl rfl rfl (ct_baseOf a0 a1) ?_
  refine s_stI3 ok rfl rfl ?_
  refine s_ldA0 ok rfl ?_
  refine s_ldI2 ok rfl ?_
  refine s_callV ok rfl rfl rfl rfl rfl rfl (ct_baseOf b0 b1) ?_
  refine s_stI4 ok rfl rfl ?_
  refine s_ci ok rfl ?_
  refine s_stI5 ok rfl rfl ?_
  refine lp_choices (E := E) (d := d) (k := k) (r := r) (l := l) (n := n) (h := h) rfl rfl rfl hd h2 a0 a2 b0 b2 hne hb (fun g f tb => ?_) 10 0 h (dCh_rf hd) ⟨fun j j0 j1 => by omega, fun j j0 j1 => by omega⟩ (by omega) (by omega)
  have fL := dCh_end hd (ia := (19 + 5 * a + 4)) (ib := (19 + 5 * b + 4)) (by omega) f
  refine s_ldA0 ok rfl ?_
  refine s_getF ok rfl rfl rfl rfl ?_
  refine s_ci ok rfl ?_
  refine s_ci ok rfl ?_
  refine s_ldI1 ok rfl ?_
  refine s_mul ok rfl ?_
  refine s_add ok rfl ?_
  refine s_ci ok rfl ?_
  refine s_add ok rfl ?_
  refine s_ldI3 ok rfl ?_
  refine s_iast ok rfl (by exact rfl) (by exact rfl) (by omega) (by omega) (fun q => by cases q) ?_
  refine s_ldA0 ok rfl ?_
  refine s_getF ok rfl rfl rfl rfl ?_
  refine s_ci ok rfl ?_
  refine s_ci ok rfl ?_
  refine s_ldI2 ok rfl ?_
  refine s_mul ok rfl ?_
  refine s_add ok rfl ?_
  refine s_ci ok rfl ?_
  refine s_add ok rfl ?_
  refine s_ldI4 ok rfl ?_
  refine s_iast ok rfl (by exact rfl) (by exact rfl) (by omega) (by omega) (fun q => by cases q) ?_
  refine s_retV ok rfl ⟨rfl, _, rfl, fL, tb.1, tb.2⟩
/-- the first c of the three other choices are not better -/
def twC (F O : Int → Int) (q : Int) : Nat → Int
  | 0 => 1
  | c + 1 => if F q ≤ F (3 * (c : Int) + q % 3) ∧ O q ≤ O (q / 3 * 3 + (c : Int)) then twC F O q c else 0
theorem twC_01 {F O : Int → Int} {q : Int} : ∀ c : Nat, twC F O q c = 0 ∨ twC F O q c = 1
  | 0 => Or.inr rfl
  | c + 1 => by
    have i := twC_01 (F := F) (O := O) (q := q) c
    unfold twC
    split
    · exact i
    · exact Or.inl rfl
theorem zand1 {x : Int} (hx : x = 0 ∨ x = 1) : iI x &&& iI 1 = iI x := by
  rcases hx with e | e <;> (rw [e]; decide +kernel)
theorem zand0 {x : Int} (hx : x = 0 ∨ x = 1) : iI x &&& iI 0 = iI 0 := by
  rcases hx with e | e <;> (rw [e]; decide +kernel)
def twW (F O : Int → Int) (q : Int) : Bool := decide (twC F O q 3 = 1)
theorem lp_two_in {E : zE} {d : Nat} {k : Nat → Nat × Nat} {h : Nat → Int → Int} {r : Nat → Int → Option Nat} {l : Nat → Nat → Int64} {n : Nat} {Q : zQ} {F O : Int → Int} (tA : ∀ j : Int, 0 ≤ j → j < 9 → h 77 j = F j) (tB : ∀ j : Int, 0 ≤ j → j < 9 → h 78 j = O j) (zF : ∀ j : Int, zb (F j)) (zO : ∀ j : Int, zb (O j)) {a b : Int} {q : Nat} (q9 : q < 9) (hX : ∀ u, zGo E (d + 9) M_X12_two 0 0 Q 109 ([some (.ref 59), some (.int (iI (a))), some (.int (iI (b))), some (.int (iI ((q : Int)))), some (.int (iI (twC F O q 3))), some (.int (iI u))], [], zJ (k, h, r, l, n), 0, 0)) : ∀ c : Nat, ∀ m : Nat, 3 < m + c → m ≤ 3 → zGo E (d + 9) M_X12_two 0 0 Q 43 ([some (.ref 59), some (.int (iI (a))), some (.int (iI (b))), some (.int (iI ((q : Int)))), some (.int (iI (twC F O q m))), some (.int (iI ((m : Int))))], [], zJ (k, h, r, l, n), 0, 0) := by
  have ok := ok_X12_two
  intro c
  induction c with
  | zero =>
    intros
    omega
  | succ c ih =>
    intro m g1 g2
    have e3 : twC F O q (m + 1) = if F q ≤ F (3 * (m : Int) + (q : Int) % 3) ∧ O q ≤ O ((q : Int) / 3 * 3 + (m : Int)) then twC F O q m else 0 := rfl
    have w01 := twC_01 (F := F) (O := O) (q := (q : Int)) m
    have hx9 : m = 3 → zGo E (d + 9) M_X12_two 0 0 Q 109 ([some (.ref 59), some (.int (iI (a))), some (.int (iI (b))), some (.int (iI ((q : Int)))), some (.int (iI (twC F O q m))), some (.int (iI ((m : Int))))], [], zJ (k, h, r, l, n), 0, 0) := fun e => by subst e; exact hX _
    refine s_ldI5 ok rfl ?_
    refine s_ci ok rfl ?_
    refine s_c_ge ok rfl (by first | exact hb _ _ | exact ⟨by omega, by omega⟩) (by first | exact hb _ _ | exact ⟨by omega, by omega⟩) (fun c46 => ?_) (fun c46 => ?_)
    · exact hx9 (by omega)
    · refine s_ldI4 ok rfl ?_
      refine s_ldA0 ok rfl ?_
      refine s_getF ok rfl rfl rfl rfl ?_
      refine s_ci ok rfl ?_
      refine s_ldI5 ok rfl ?_
      refine s_mul ok rfl ?_
      refine s_ldI3 ok rfl ?_
      refine s_ci ok rfl ?_
      refine s_rem ok rfl (by first | exact hb _ _ | exact ⟨by omega, by omega⟩) (by first | exact hb _ _ | exact ⟨by omega, by omega⟩) (by omega) (by omega) ?_
      refine s_add ok rfl ?_
      refine s_iald ok rfl (by exact rfl) (by exact rfl) (by omega) (by omega) ?_
      rw [tA _ (by omega) (by omega)]
      refine s_ldA0 ok rfl ?_
      refine s_getF ok rfl rfl rfl rfl ?_
      refine s_ldI3 ok rfl ?_
      refine s_iald ok rfl (by exact rfl) (by exact rfl) (by omega) (by omega) ?_
      rw [tA _ (by omega) (by omega)]
      refine s_c_lt ok rfl (zF _) (zF _) (fun c70 => ?_) (fun c70 => ?_)
      · refine s_ci ok rfl ?_
        refine s_bin ok rfl (by first | exact zand1 w01 | exact zand0 w01) ?_
        refine s_stI4 ok rfl rfl ?_
        refine s_inc5 ok rfl rfl ?_
        refine s_goto ok rfl ?_
        have hh := ih (m + 1) (by omega) (by omega)
        rw [e3] at hh
        first | rw [if_pos (by omega)] at hh | rw [if_neg (by omega)] at hh
        exact hh
      · refine s_ldA0 ok rfl ?_
        refine s_getF ok rfl rfl rfl rfl ?_
        refine s_ldI3 ok rfl ?_
        refine s_ci ok rfl ?_
        refine s_div ok rfl (by first | exact hb _ _ | exact ⟨by omega, by omega⟩) (by first | exact hb _ _ | exact ⟨by omega, by omega⟩) (by omega) (by omega) ?_
        refine s_ci ok rfl ?_
        refine s_mul ok rfl ?_
        refine s_ldI5 ok rfl ?_
        refine s_add ok rfl ?_
        refine s_iald ok rfl (by exact rfl) (by exact rfl) (by omega) (by omega) ?_
        rw [tB _ (by omega) (by omega)]
        refine s_ldA0 ok rfl ?_
        refine s_getF ok rfl rfl rfl rfl ?_
        refine s_ldI3 ok rfl ?_
        refine s_iald ok rfl (by exact rfl) (by exact rfl) (by omega) (by omega) ?_
        rw [tB _ (by omega) (by omega)]
        refine s_c_lt ok rfl (zO _) (zO _) (fun c92 => ?_) (fun c92 => ?_)
        · refine s_ci ok rfl ?_
          refine s_bin ok rfl (by first | exact zand1 w01 | exact zand0 w01) ?_
          refine s_stI4 ok rfl rfl ?_
          refine s_inc5 ok rfl rfl ?_
          refine s_goto ok rfl ?_
          have hh := ih (m + 1) (by omega) (by omega)
          rw [e3] at hh
          first | rw [if_pos (by omega)] at hh | rw [if_neg (by omega)] at hh
          exact hh
        · refine s_ci ok rfl ?_
          refine s_goto ok rfl ?_
          refine s_bin ok rfl (by first | exact zand1 w01 | exact zand0 w01) ?_
          refine s_stI4 ok rfl rfl ?_
          refine s_inc5 ok rfl rfl ?_
          refine s_goto ok rfl ?_
          have hh := ih (m + 1) (by omega) (by omega)
          rw [e3] at hh
          first | rw [if_pos (by omega)] at hh | rw [if_neg (by omega)] at hh
          exact hh
theorem lp_two {E : zE} {d : Nat} {k : Nat → Nat × Nat} {h : Nat → Int → Int} {r : Nat → Int → Option Nat} {l : Nat → Nat → Int64} {n : Nat} {Q : zQ} {F O : Int → Int} (tA : ∀ j : Int, 0 ≤ j → j < 9 → h 77 j = F j) (tB : ∀ j : Int, 0 ≤ j → j < 9 → h 78 j = O j) (zF : ∀ j : Int, zb (F j)) (zO : ∀ j : Int, zb (O j)) {a b : Int} (hQ : Q (some (.int (iI (if sFst (twW F O) 9 = 9 then -4 else 10 * (sFst (twW F O) 9 / 3) + sFst (twW F O) 9 % 3)))) (zJ (k, h, r, l, n))) : ∀ c : Nat, ∀ (m : Nat) (u v : Option Value), znl u = true → sFst (twW F O) m = m → 9 < m + c → m ≤ 9 → zGo E (d + 9) M_X12_two 0 0 Q 31 ([some (.ref 59), some (.int (iI (a))), some (.int (iI (b))), some (.int (iI ((m : Int)))), u, v], [], zJ (k, h, r, l, n), 0, 0) := by
  have ok := ok_X12_two
  intro c
  induction c with
  | zero =>
    intros
    omega
  | succ c ih =>
    intro m u v hu hm g1 g2
    have e3 : sFst (twW F O) (m + 1) = if sFst (twW F O) m < m then sFst (twW F O) m else if (twW F O) m = true then (m : Int) else (m : Int) + 1 := rfl
    rw [if_neg (by omega)] at e3
    have fx := fun q => sFst_fix (W := (twW F O)) (c := m + 1) q (9 - (m + 1))
    have w01 := twC_01 (F := F) (O := O) (q := (m : Int)) 3
    refine s_ldI3 ok rfl ?_
    refine s_ci ok rfl ?_
    refine s_c_ge ok rfl (by first | exact hb _ _ | exact ⟨by omega, by omega⟩) (by first | exact hb _ _ | exact ⟨by omega, by omega⟩) (fun c34 => ?_) (fun c34 => ?_)
    · refine s_ci ok rfl ?_
      refine s_retI ok rfl (by have z := hQ; rw [show (9 : Nat) = m by omega, hm, if_pos (by omega)] at z; exact z)
    · refine s_ci ok rfl ?_
      refine s_stI4 ok rfl rfl ?_
      refine s_ci ok rfl ?_
      refine s_stI5 ok rfl rfl ?_
      refine lp_two_in (E := E) (d := d) (k := k) (r := r) (l := l) (n := n) (h := h) tA tB zF zO (q := m) (by omega) (fun u9 => ?_) 4 0 (by omega) (by omega)
      refine s_ldI4 ok rfl ?_
      refine s_if_eq ok rfl (by rcases w01 with e | e <;> (rw [e]; exact ⟨by omega, by omega⟩)) (fun c111 => ?_) (fun c111 => ?_)
      · refine s_inc3 ok rfl rfl ?_
        refine s_goto ok rfl ?_
        have ew : ¬ (twW F O) (m : Int) = true := by
          unfold twW
          intro q
          have q := of_decide_eq_true q
          omega
        rw [if_neg ew] at e3
        exact ih (m + 1) _ _ rfl (by rw [e3]; omega) (by omega) (by omega)
      · refine s_ci ok rfl ?_
        refine s_ldI3 ok rfl ?_
        refine s_ci ok rfl ?_
        refine s_div ok rfl (by first | exact hb _ _ | exact ⟨by omega, by omega⟩) (by first | exact hb _ _ | exact ⟨by omega, by omega⟩) (by omega) (by omega) ?_
        refine s_mul ok rfl ?_
        refine s_ldI3 ok rfl ?_
        refine s_ci ok rfl ?_
        refine s_rem ok rfl (by first | exact hb _ _ | exact ⟨by omega, by omega⟩) (by first | exact hb _ _ | exact ⟨by omega, by omega⟩) (by omega) (by omega) ?_
        refine s_add ok rfl ?_
        refine s_retI ok rfl (by have ew : (twW F O) (m : Int) = true := decide_eq_true (w01.resolve_left c111); rw [if_pos ew] at e3; have z := hQ; rw [show (9 : Nat) = m + 1 + (9 - (m + 1)) by omega, fx (by omega), e3, if_neg (by omega)] at z; exact z)
theorem twC_cg {F O F2 O2 : Int → Int} {q : Int} : ∀ {c : Nat}, c ≤ 3 → 0 ≤ q → q < 9 → (∀ j : Int, 0 ≤ j → j < 9 → F j = F2 j) → (∀ j : Int, 0 ≤ j → j < 9 → O j = O2 j) → twC F O q c = twC F2 O2 q c
  | 0, _, _, _, _, _ => rfl
  | c + 1, hc, q0, q1, e1, e2 => by
    have i := twC_cg (c := c) (by omega) q0 q1 e1 e2
    unfold twC
    rw [i, e1 q q0 q1, e2 q q0 q1, e1 (3 * (c : Int) + q % 3) (by omega) (by omega), e2 (q / 3 * 3 + (c : Int)) (by omega) (by omega)]
theorem ct_two {E : zE} {d : Nat} {k : Nat → Nat × Nat} {h : Nat → Int → Int} {r : Nat → Int → Option Nat} {l : Nat → Nat → Int64} {n : Nat} {p : Int → Int} {w dd : Int} (ep : h 60 = p) (ew : h 59 17 = w) (ed : h 59 18 = dd) (hd : dP h) (h2 : zb dd) {a b : Int} (za : zb a) (zc : zb b) (hb : ∀ s : Int, 0 ≤ s → s < 8 → pBa p s ≤ 300) : zCT E (d + 9) M_X12_two [.ref 59, .int (iI (a)), .int (iI (b))] (zJ (k, h, r, l, n)) 0 0 (zVx (.int (iI (if (0 ≤ a ∧ a < p 6) ∧ (0 ≤ b ∧ b < p 6) ∧ ¬ a = b then (if sFst (twW (fun j => dA (pCh p a b j) w dd a) (fun j => dA (pCh p a b j) w dd b)) 9 = 9 then -4 else 10 * (sFst (twW (fun j => dA (pCh p a b j) w dd a) (fun j => dA (pCh p a b j) w dd b)) 9 / 3) + sFst (twW (fun j => dA (pCh p a b j) w dd a) (fun j => dA (pCh p a b j) w dd b)) 9 % 3) else -1))) (zG k r l n (dL h))) := by
  have ok := ok_X12_two
  refine zCT_of pn_X12_two (Nat.le_of_ble_eq_true rfl) ?_
  show zGo _ _ _ _ _ _ 0 ([some (.ref 59), some (.int (iI (a))), some (.int (iI (b))), none, none, none], [], _, _, _)
  subst ep
  subst ew
  subst ed
  refine s_ldA0 ok rfl ?_
  refine s_ldI1 ok rfl ?_
  refine s_callV ok rfl rfl rfl rfl rfl rfl (ct_isTraveller hd.1 za) ?_
  refine s_if_eq ok rfl zif01 (fun c5 => ?_) (fun c5 => ?_)
  · refine s_ci ok rfl ?_
    refine s_retI ok rfl ⟨congrArg (fun z => some (Value.int (iI z))) (if_neg (fun q => by first | exact q.2.2 c18 | exact zif_f c13 q.2.1 | exact zif_f c5 q.1)).symm, _, rfl, dL.rf hd⟩
  · refine s_ldA0 ok rfl ?_
    refine s_ldI2 ok rfl ?_
    refine s_callV ok rfl rfl rfl rfl rfl rfl (ct_isTraveller hd.1 zc) ?_
    refine s_if_eq ok rfl zif01 (fun c13 => ?_) (fun c13 => ?_)
    · refine s_ci ok rfl ?_
      refine s_retI ok rfl ⟨congrArg (fun z => some (Value.int (iI z))) (if_neg (fun q => by first | exact q.2.2 c18 | exact zif_f c13 q.2.1 | exact zif_f c5 q.1)).symm, _, rfl, dL.rf hd⟩
    · refine s_ldI1 ok rfl ?_
      refine s_ldI2 ok rfl ?_
      refine s_c_eq ok rfl za zc (fun c18 => ?_) (fun c18 => ?_)
      · refine s_ci ok rfl ?_
        refine s_retI ok rfl ⟨congrArg (fun z => some (Value.int (iI z))) (if_neg (fun q => by first | exact q.2.2 c18 | exact zif_f c13 q.2.1 | exact zif_f c5 q.1)).symm, _, rfl, dL.rf hd⟩
      · have ya := zif_t c5
        have yc := zif_t c13
        have p6 := hd.1.2.2.2.2.2.2.2.2.2.2.2.2.2.1
        refine s_ldA0 ok rfl ?_
        refine s_ldI1 ok rfl ?_
        refine s_ldI2 ok rfl ?_
        refine s_callVvx ok rfl rfl rfl rfl rfl rfl (ct_choices (h := h) rfl rfl rfl hd h2 ya.1 ya.2 yc.1 yc.2 c18 hb) (fun σ26 hσ26 => ?_)
        obtain ⟨g26, rfl, hg26⟩ := hσ26
        obtain ⟨f26, tA26, tB26⟩ := hg26
        refine s_ci ok rfl ?_
        refine s_stI3 ok rfl rfl ?_
        refine lp_two (E := E) (d := d) (k := k) (r := r) (l := l) (n := n) (h := g26) (F := fun j => if 0 ≤ j ∧ j < 9 then dA (pCh (h 60) a b j) (h 59 17) (h 59 18) a else 0) (O := fun j => if 0 ≤ j ∧ j < 9 then dA (pCh (h 60) a b j) (h 59 17) (h 59 18) b else 0) (fun j j0 j1 => by rw [tA26 j j0 j1]; exact (if_pos ⟨j0, j1⟩).symm) (fun j j0 j1 => by rw [tB26 j j0 j1]; exact (if_pos ⟨j0, j1⟩).symm) (fun j => ?_) (fun j => ?_) ?_ 10 0 none none rfl rfl (by omega) (by omega)
        · split
          · rename_i q
            have z := dA_in (w := h 59 17) (dd := h 59 18) (t := a) (pCh_ok (c := j) hd.1 ya.1 (by omega) yc.1 (by omega) hb q.1 q.2) hd.2.2.2.2
            exact ⟨by omega, by omega⟩
          · exact ⟨by omega, by omega⟩
        · split
          · rename_i q
            have z := dA_in (w := h 59 17) (dd := h 59 18) (t := b) (pCh_ok (c := j) hd.1 ya.1 (by omega) yc.1 (by omega) hb q.1 q.2) hd.2.2.2.2
            exact ⟨by omega, by omega⟩
          · exact ⟨by omega, by omega⟩
        · refine ⟨congrArg (fun z => some (Value.int (iI z))) ?_, _, rfl, f26⟩
          rw [if_pos (show (0 ≤ a ∧ a < h 60 6) ∧ (0 ≤ b ∧ b < h 60 6) ∧ ¬ a = b from ⟨ya, yc, c18⟩)]
          have ew : ∀ q : Int, 0 ≤ q → q < 9 → twW (fun j => if 0 ≤ j ∧ j < 9 then dA (pCh (h 60) a b j) (h 59 17) (h 59 18) a else 0) (fun j => if 0 ≤ j ∧ j < 9 then dA (pCh (h 60) a b j) (h 59 17) (h 59 18) b else 0) q = (twW (fun j => dA (pCh (h 60) a b j) (h 59 17) (h 59 18) a) (fun j => dA (pCh (h 60) a b j) (h 59 17) (h 59 18) b)) q := fun q q0 q1 => by
            unfold twW
            congr 2
            exact twC_cg (by omega) q0 q1 (fun j j0 j1 => if_pos ⟨j0, j1⟩) (fun j j0 j1 => if_pos ⟨j0, j1⟩)
          rw [sFst_cg 9 ew]
