/-! the trip: trains and their order -/
def qN (dd i : Int) : Int := if dd = 1 then 3 * i else i
def iN (dd tr dep : Int) : Int := if dd = 1 then tr + dep else 3 * tr + dep
def rN (p : Int → Int) (dd : Int) : Int := if dd = 1 then p 0 else 3 * p 0
theorem ct_place {E : zE} {d : Nat} {k : Nat → Nat × Nat} {h : Nat → Int → Int} {r : Nat → Int → Option Nat} {l : Nat → Nat → Int64} {n : Nat} {a b c : Int} : zCT E (d + 1) M_X9_place [.int (iI (a)), .int (iI (b)), .int (iI (c))] (zJ (k, h, r, l, n)) 0 0 (zV (.int (iI (5 * (3 * a + b) + c))) (zJ (k, h, r, l, n))) := by
  have ok := ok_X9_place
  refine zCT_of pn_X9_place (Nat.le_of_ble_eq_true rfl) ?_
  show zGo _ _ _ _ _ _ 0 ([some (.int (iI (a))), some (.int (iI (b))), some (.int (iI (c)))], [], _, _, _)
  refine s_ci ok rfl ?_
  refine s_ldI0 ok rfl ?_
  refine s_ldI1 ok rfl ?_
  refine s_callS ok rfl rfl rfl rfl (ct_pnumberOf) ?_
  refine s_mul ok rfl ?_
  refine s_ldI2 ok rfl ?_
  refine s_add ok rfl ?_
  refine s_retI ok rfl ⟨congrArg (fun z => some (Value.int (iI z))) (by first | rfl | omega | (simp only []; omega)), rfl⟩
theorem lp_setTrains_in4 {E : zE} {d : Nat} {k : Nat → Nat × Nat} {h : Nat → Int → Int} {r : Nat → Int → Option Nat} {l : Nat → Nat → Int64} {n : Nat} {Q : zQ} {p : Int → Int} {w dd : Int} (hdd : dd = 1 ∨ dd = 3) (hp : pOK p) (hR : cR 4 5 6 7 8 9 10 11 12 13 k h r n p w) {tr : Nat} (htr : (tr : Int) < p 0) (hX : ∀ g u v, znl u = true → znl v = true → (∀ q : Nat, (q < 37 ∨ 54 < q ∨ (37 < q ∧ q < 49) ∨ q = 50) → g q = h q) ∧ (∀ j, ¬ j = 18 → g 37 j = h 37 j) ∧ g 37 18 = iN dd ((tr : Int)) (dd) ∧ (∀ j : Int, 0 ≤ j → j < iN dd ((tr : Int)) (dd) → g 54 j = qN dd j) ∧ (∀ x : Int, 0 ≤ x → x < 3 * ((tr : Int)) + (dd) → x % 3 < dd → g 49 (5 * x) = p (11 + 2 * (x / 3)) + x % 3 * p 3 ∧ g 51 x = 0 ∧ g 52 x = 0 ∧ g 53 x = 0) → zGo E (d + 2) M_X9_setTrains 0 0 Q 111 ([some (.ref 37), some (.ref 4), some (.int (iI (dd - 1))), some (.int (iI ((tr : Int)))), u, v], [], zJ (k, g, r, l, n), 0, 0)) : ∀ c : Nat, ∀ (m : Nat) (g : Nat → Int → Int) (u : Option Value), znl u = true → (∀ q : Nat, (q < 37 ∨ 54 < q ∨ (37 < q ∧ q < 49) ∨ q = 50) → g q = h q) ∧ (∀ j, ¬ j = 18 → g 37 j = h 37 j) ∧ g 37 18 = iN dd ((tr : Int)) ((m : Int)) ∧ (∀ j : Int, 0 ≤ j → j < iN dd ((tr : Int)) ((m : Int)) → g 54 j = qN dd j) ∧ (∀ x : Int, 0 ≤ x → x < 3 * ((tr : Int)) + ((m : Int)) → x % 3 < dd → g 49 (5 * x) = p (11 + 2 * (x / 3)) + x % 3 * p 3 ∧ g 51 x = 0 ∧ g 52 x = 0 ∧ g 53 x = 0) → dd < m + c → m ≤ dd → zGo E (d + 2) M_X9_setTrains 0 0 Q 18 ([some (.ref 37), some (.ref 4), some (.int (iI (dd - 1))), some (.int (iI ((tr : Int)))), some (.int (iI ((m : Int)))), u], [], zJ (k, g, r, l, n), 0, 0) := by
  have ok := ok_X9_setTrains
  intro c
  induction c with
  | zero =>
    intros
    omega
  | succ c ih =>
    intro m g u hu ⟨f, f37, fn, fq, fx⟩ g1 g2
    have p0 := hp.1
    have p4 := hp.2.1
    have z3 := hp.2.2.2.2.2.2.1
    have z3b := hp.2.2.2.2.2.2.2.1
    have hi : 0 ≤ iN dd (tr : Int) (m : Int) ∧ iN dd (tr : Int) (m : Int) ≤ 12 := by unfold iN; split <;> omega
    refine s_ldI4 ok rfl ?_
    refine s_ldI2 ok rfl ?_
    refine s_c_gt ok rfl ⟨by omega, by omega⟩ ⟨by omega, by omega⟩ (fun c21 => ?_) (fun c21 => ?_)
    · have em : (m : Int) = dd := by omega
      rw [em] at fn fq fx
      exact hX g _ u rfl hu ⟨f, f37, fn, fq, fx⟩
    · have mlt : (m : Int) < dd := by omega
      have hi2 : iN dd (tr : Int) (m : Int) < 12 := by unfold iN; split <;> omega
      obtain ⟨b5, b6, b7⟩ := hR.2.2.2.1 tr (by omega) (by omega)
      have r1 : h 13 1 = p 3 := (hR.2.2.2.2.2 1 (by omega) (by omega)).2
      have s1 := hp.2.2.2.2.2.2.2.2.2.2.2.2.2.2.2.1 tr (by omega) (by omega)
      have mp : 0 ≤ (m : Int) * p 3 ∧ (m : Int) * p 3 ≤ 2 * 30 := ⟨Int.mul_nonneg (by omega) (by omega), Int.mul_le_mul (by omega) z3b (by omega) (by omega)⟩
      refine s_ldI3 ok rfl ?_
      refine s_ldI4 ok rfl ?_
      refine s_callS ok rfl rfl rfl rfl (ct_pnumberOf) ?_
      refine s_stI5 ok rfl rfl ?_
      refine s_ldA0 ok rfl ?_
      refine s_getF ok rfl rfl rfl rfl ?_
      refine s_ldI3 ok rfl ?_
      refine s_ldI4 ok rfl ?_
      refine s_ci ok rfl ?_
      refine s_callS ok rfl rfl rfl rfl (ct_place) ?_
      refine s_ldA1 ok rfl ?_
      refine s_getF ok rfl rfl rfl rfl ?_
      refine s_ldI3 ok rfl ?_
      refine s_iald ok rfl (by exact rfl) (by exact rfl) (by omega) (by omega) ?_
      rw [show g 9 (tr : Int) = p (11 + 2 * (tr : Int)) from (congrFun (f 9 (by omega)) _).trans b5]
      refine s_ldI4 ok rfl ?_
      refine s_ldA1 ok rfl ?_
      refine s_getF ok rfl rfl rfl rfl ?_
      refine s_ci ok rfl ?_
      refine s_iald ok rfl (by exact rfl) (by exact rfl) (by omega) (by omega) ?_
      rw [show g 13 1 = p 3 from (congrFun (f 13 (by omega)) _).trans r1]
      refine s_mul ok rfl ?_
      refine s_add ok rfl ?_
      refine s_iast ok rfl (by exact rfl) (by exact rfl) (by omega) (by omega) (fun q => by cases q) ?_
      refine s_ldA0 ok rfl ?_
      refine s_getF ok rfl rfl rfl rfl ?_
      refine s_ldI5 ok rfl ?_
      refine s_ci ok rfl ?_
      refine s_iast ok rfl (by exact rfl) (by exact rfl) (by omega) (by omega) (fun q => by cases q) ?_
      refine s_ldA0 ok rfl ?_
      refine s_getF ok rfl rfl rfl rfl ?_
      refine s_ldI5 ok rfl ?_
      refine s_ci ok rfl ?_
      refine s_iast ok rfl (by exact rfl) (by exact rfl) (by omega) (by omega) (fun q => by cases q) ?_
      refine s_ldA0 ok rfl ?_
      refine s_getF ok rfl rfl rfl rfl ?_
      refine s_ldI5 ok rfl ?_
      refine s_ci ok rfl ?_
      refine s_iast ok rfl (by exact rfl) (by exact rfl) (by omega) (by omega) (fun q => by cases q) ?_
      refine s_ldA0 ok rfl ?_
      refine s_getF ok rfl rfl rfl rfl ?_
      refine s_ldA0 ok rfl ?_
      refine s_getJ 18 ok rfl rfl rfl rfl ?_
      rw [show (zv (zv (zv (zv g 49 (5 * (3 * (tr : Int) + (m : Int)) + 0) (p (11 + 2 * (tr : Int)) + (m : Int) * p 3)) 52 (3 * (tr : Int) + (m : Int)) 0) 53 (3 * (tr : Int) + (m : Int)) 0) 51 (3 * (tr : Int) + (m : Int)) 0) 37 18 = iN dd (tr : Int) (m : Int) from (congrFun (zv_other (by omega)) _).trans ((congrFun (zv_other (by omega)) _).trans ((congrFun (zv_other (by omega)) _).trans ((congrFun (zv_other (by omega)) _).trans fn)))]
      refine s_ldI5 ok rfl ?_
      refine s_iast ok rfl (by exact rfl) (by exact rfl) (by omega) (by omega) (fun q => by cases q) ?_
      refine s_ldA0 ok rfl ?_
      refine s_dupA ok rfl ?_
      refine s_getJ 18 ok rfl rfl rfl rfl ?_
      rw [show (zv (zv (zv (zv (zv g 49 (5 * (3 * (tr : Int) + (m : Int)) + 0) (p (11 + 2 * (tr : Int)) + (m : Int) * p 3)) 52 (3 * (tr : Int) + (m : Int)) 0) 53 (3 * (tr : Int) + (m : Int)) 0) 51 (3 * (tr : Int) + (m : Int)) 0) 54 (iN dd (tr : Int) (m : Int)) (3 * (tr : Int) + (m : Int))) 37 18 = iN dd (tr : Int) (m : Int) from (congrFun (zv_other (by omega)) _).trans ((congrFun (zv_other (by omega)) _).trans ((congrFun (zv_other (by omega)) _).trans ((congrFun (zv_other (by omega)) _).trans ((congrFun (zv_other (by omega)) _).trans fn))))]
      refine s_ci ok rfl ?_
      refine s_add ok rfl ?_
      refine s_putJ 18 ok rfl rfl rfl rfl (fun q => by cases q) ?_
      refine s_inc4 ok rfl rfl ?_
      refine s_goto ok rfl ?_
      have i1 : iN dd (tr : Int) ((m + 1 : Nat) : Int) = iN dd (tr : Int) (m : Int) + 1 := by unfold iN; split <;> omega
      have o : ∀ q, ¬ q = 49 → ¬ q = 52 → ¬ q = 53 → ¬ q = 51 → ¬ q = 54 → ¬ q = 37 → (zv (zv (zv (zv (zv (zv g 49 (5 * (3 * (tr : Int) + (m : Int)) + 0) (p (11 + 2 * (tr : Int)) + (m : Int) * p 3)) 52 (3 * (tr : Int) + (m : Int)) 0) 53 (3 * (tr : Int) + (m : Int)) 0) 51 (3 * (tr : Int) + (m : Int)) 0) 54 (iN dd (tr : Int) (m : Int)) (3 * (tr : Int) + (m : Int))) 37 18 (iN dd (tr : Int) (m : Int) + 1)) q = g q := fun q h1 h2 h3 h4 h5 h6 => by
        rw [zv_other h6, zv_other h5, zv_other h4, zv_other h3, zv_other h2, zv_other h1]
      have w49 : (zv (zv (zv (zv (zv (zv g 49 (5 * (3 * (tr : Int) + (m : Int)) + 0) (p (11 + 2 * (tr : Int)) + (m : Int) * p 3)) 52 (3 * (tr : Int) + (m : Int)) 0) 53 (3 * (tr : Int) + (m : Int)) 0) 51 (3 * (tr : Int) + (m : Int)) 0) 54 (iN dd (tr : Int) (m : Int)) (3 * (tr : Int) + (m : Int))) 37 18 (iN dd (tr : Int) (m : Int) + 1)) 49 = zv g 49 (5 * (3 * (tr : Int) + (m : Int)) + 0) (p (11 + 2 * (tr : Int)) + (m : Int) * p 3) 49 := by rw [zv_other (by omega), zv_other (by omega), zv_other (by omega), zv_other (by omega), zv_other (by omega)]
      have w51 : ∀ j, (zv (zv (zv (zv (zv (zv g 49 (5 * (3 * (tr : Int) + (m : Int)) + 0) (p (11 + 2 * (tr : Int)) + (m : Int) * p 3)) 52 (3 * (tr : Int) + (m : Int)) 0) 53 (3 * (tr : Int) + (m : Int)) 0) 51 (3 * (tr : Int) + (m : Int)) 0) 54 (iN dd (tr : Int) (m : Int)) (3 * (tr : Int) + (m : Int))) 37 18 (iN dd (tr : Int) (m : Int) + 1)) 51 j = if j = (3 * (tr : Int) + (m : Int)) then 0 else g 51 j := fun j => by
        rw [zv_other (by omega), zv_other (by omega), zv_eq]
        by_cases c : j = (3 * (tr : Int) + (m : Int))
        · rw [if_pos ⟨rfl, c⟩, if_pos c]
        · rw [if_neg (fun z => c z.2), if_neg c, zv_other (by omega), zv_other (by omega), zv_other (by omega)]
      have w52 : ∀ j, (zv (zv (zv (zv (zv (zv g 49 (5 * (3 * (tr : Int) + (m : Int)) + 0) (p (11 + 2 * (tr : Int)) + (m : Int) * p 3)) 52 (3 * (tr : Int) + (m : Int)) 0) 53 (3 * (tr : Int) + (m : Int)) 0) 51 (3 * (tr : Int) + (m : Int)) 0) 54 (iN dd (tr : Int) (m : Int)) (3 * (tr : Int) + (m : Int))) 37 18 (iN dd (tr : Int) (m : Int) + 1)) 52 j = if j = (3 * (tr : Int) + (m : Int)) then 0 else g 52 j := fun j => by
        rw [zv_other (by omega), zv_other (by omega), zv_other (by omega), zv_other (by omega), zv_eq]
        by_cases c : j = (3 * (tr : Int) + (m : Int))
        · rw [if_pos ⟨rfl, c⟩, if_pos c]
        · rw [if_neg (fun z => c z.2), if_neg c, zv_other (by omega)]
      have w53 : ∀ j, (zv (zv (zv (zv (zv (zv g 49 (5 * (3 * (tr : Int) + (m : Int)) + 0) (p (11 + 2 * (tr : Int)) + (m : Int) * p 3)) 52 (3 * (tr : Int) + (m : Int)) 0) 53 (3 * (tr : Int) + (m : Int)) 0) 51 (3 * (tr : Int) + (m : Int)) 0) 54 (iN dd (tr : Int) (m : Int)) (3 * (tr : Int) + (m : Int))) 37 18 (iN dd (tr : Int) (m : Int) + 1)) 53 j = if j = (3 * (tr : Int) + (m : Int)) then 0 else g 53 j := fun j => by
        rw [zv_other (by omega), zv_other (by omega), zv_other (by omega), zv_eq]
        by_cases c : j = (3 * (tr : Int) + (m : Int))
        · rw [if_pos ⟨rfl, c⟩, if_pos c]
        · rw [if_neg (fun z => c z.2), if_neg c, zv_other (by omega), zv_other (by omega)]
      have w54 : ∀ j, (zv (zv (zv (zv (zv (zv g 49 (5 * (3 * (tr : Int) + (m : Int)) + 0) (p (11 + 2 * (tr : Int)) + (m : Int) * p 3)) 52 (3 * (tr : Int) + (m : Int)) 0) 53 (3 * (tr : Int) + (m : Int)) 0) 51 (3 * (tr : Int) + (m : Int)) 0) 54 (iN dd (tr : Int) (m : Int)) (3 * (tr : Int) + (m : Int))) 37 18 (iN dd (tr : Int) (m : Int) + 1)) 54 j = if j = iN dd (tr : Int) (m : Int) then (3 * (tr : Int) + (m : Int)) else g 54 j := fun j => by
        rw [zv_other (by omega), zv_eq]
        by_cases c : j = iN dd (tr : Int) (m : Int)
        · rw [if_pos ⟨rfl, c⟩, if_pos c]
        · rw [if_neg (fun z => c z.2), if_neg c, zv_other (by omega), zv_other (by omega), zv_other (by omega), zv_other (by omega)]
      refine ih (m + 1) _ _ rfl ⟨fun q hq => ?_, fun j hj => ?_, ?_, fun j j0 j1 => ?_, fun x x0 x1 x2 => ?_⟩ (by omega) (by omega)
      · rw [o q (by omega) (by omega) (by omega) (by omega) (by omega) (by omega)]
        exact f q hq
      · rw [zv_at hj, zv_other (by omega), zv_other (by omega), zv_other (by omega), zv_other (by omega), zv_other (by omega)]
        exact f37 j hj
      · rw [zv_is, i1]
      · rw [i1] at j1
        rw [w54]
        by_cases c : j = iN dd (tr : Int) (m : Int)
        · rw [if_pos c, c]
          unfold qN iN
          rcases hdd with e | e <;> subst e
          · rw [if_pos rfl, if_pos rfl]; omega
          · rw [if_neg (by omega), if_neg (by omega)]
        · rw [if_neg c]
          exact fq j j0 (by omega)
      · rw [w49, w51, w52, w53]
        by_cases c : x = (3 * (tr : Int) + (m : Int))
        · rw [if_pos c, if_pos c, if_pos c, c, show (5 * (3 * (tr : Int) + (m : Int)) + 0 : Int) = 5 * (3 * (tr : Int) + (m : Int)) by omega, zv_is, show (3 * (tr : Int) + (m : Int)) / 3 = (tr : Int) by omega, show (3 * (tr : Int) + (m : Int)) % 3 = (m : Int) by omega]
          exact ⟨rfl, rfl, rfl, rfl⟩
        · rw [if_neg c, if_neg c, if_neg c, zv_at (by omega)]
          exact fx x x0 (by omega) x2
theorem lp_setTrains4 {E : zE} {d : Nat} {k : Nat → Nat × Nat} {h : Nat → Int → Int} {r : Nat → Int → Option Nat} {l : Nat → Nat → Int64} {n : Nat} {Q : zQ} {p : Int → Int} {w dd : Int} (hdd : dd = 1 ∨ dd = 3) (hp : pOK p) (hR : cR 4 5 6 7 8 9 10 11 12 13 k h r n p w) (hX : ∀ g u v y, (∀ q : Nat, (q < 37 ∨ 54 < q ∨ (37 < q ∧ q < 49) ∨ q = 50) → g q = h q) ∧ (∀ j, ¬ j = 18 → g 37 j = h 37 j) ∧ g 37 18 = iN dd (p 0) (0) ∧ (∀ j : Int, 0 ≤ j → j < iN dd (p 0) (0) → g 54 j = qN dd j) ∧ (∀ x : Int, 0 ≤ x → x < 3 * (p 0) + (0) → x % 3 < dd → g 49 (5 * x) = p (11 + 2 * (x / 3)) + x % 3 * p 3 ∧ g 51 x = 0 ∧ g 52 x = 0 ∧ g 53 x = 0) → zGo E (d + 2) M_X9_setTrains 0 0 Q 117 ([some (.ref 37), some (.ref 4), some (.int (iI (dd - 1))), u, v, y], [], zJ (k, g, r, l, n), 0, 0)) : ∀ c : Nat, ∀ (m : Nat) (g : Nat → Int → Int) (u v : Option Value), znl u = true → znl v = true → (∀ q : Nat, (q < 37 ∨ 54 < q ∨ (37 < q ∧ q < 49) ∨ q = 50) → g q = h q) ∧ (∀ j, ¬ j = 18 → g 37 j = h 37 j) ∧ g 37 18 = iN dd ((m : Int)) (0) ∧ (∀ j : Int, 0 ≤ j → j < iN dd ((m : Int)) (0) → g 54 j = qN dd j) ∧ (∀ x : Int, 0 ≤ x → x < 3 * ((m : Int)) + (0) → x % 3 < dd → g 49 (5 * x) = p (11 + 2 * (x / 3)) + x % 3 * p 3 ∧ g 51 x = 0 ∧ g 52 x = 0 ∧ g 53 x = 0) → p 0 < m + c → m ≤ p 0 → zGo E (d + 2) M_X9_setTrains 0 0 Q 7 ([some (.ref 37), some (.ref 4), some (.int (iI (dd - 1))), some (.int (iI ((m : Int)))), u, v], [], zJ (k, g, r, l, n), 0, 0) := by
  have ok := ok_X9_setTrains
  intro c
  induction c with
  | zero =>
    intros
    omega
  | succ c ih =>
    intro m g u v hu hv ⟨f, f37, fn, fq, fx⟩ g1 g2
    have p0 := hp.1
    have p4 := hp.2.1
    refine s_ldI3 ok rfl ?_
    refine s_ldA1 ok rfl ?_
    refine s_getJ 5 ok rfl rfl rfl rfl ?_
    rw [show g 4 5 = p 0 from (congrFun (f 4 (by omega)) 5).trans hR.1.2]
    refine s_c_ge ok rfl ⟨by omega, by omega⟩ ⟨by omega, by omega⟩ (fun c12 => ?_) (fun c12 => ?_)
    · have em : (m : Int) = p 0 := by omega
      rw [em] at fn fq fx
      exact hX g _ u v ⟨f, f37, fn, fq, fx⟩
    · refine s_ci ok rfl ?_
      refine s_stI4 ok rfl rfl ?_
      refine lp_setTrains_in4 (E := E) (d := d) (k := k) (r := r) (l := l) (n := n) (h := h) hdd hp hR (tr := m) (by omega) (fun g2 u2 v2 hu2 hv2 ⟨e, e37, en, eq, ex⟩ => ?_) (dd + 1).toNat 0 g v hv ⟨f, f37, fn, fq, fx⟩ (by omega) (by omega)
      refine s_inc3 ok rfl rfl ?_
      refine s_goto ok rfl ?_
      have j1 : iN dd ((m + 1 : Nat) : Int) 0 = iN dd (m : Int) dd := by
        unfold iN
        rcases hdd with c9 | c9 <;> subst c9
        · rw [if_pos rfl, if_pos rfl]; omega
        · rw [if_neg (by omega), if_neg (by omega)]; omega
      refine ih (m + 1) g2 u2 v2 hu2 hv2 ⟨e, e37, by rw [j1]; exact en, by rw [j1]; exact eq, fun x x0 x1 x2 => ex x x0 (by omega) x2⟩ (by omega) (by omega)
theorem ct_setTrains4 {E : zE} {d : Nat} {k : Nat → Nat × Nat} {h : Nat → Int → Int} {r : Nat → Int → Option Nat} {l : Nat → Nat → Int64} {n : Nat} {p : Int → Int} {w dd : Int} (hdd : dd = 1 ∨ dd = 3) (hp : pOK p) (hR : cR 4 5 6 7 8 9 10 11 12 13 k h r n p w) : zCT E (d + 2) M_X9_setTrains [.ref 37, .ref 4, .int (iI (dd - 1))] (zJ (k, h, r, l, n)) 0 0 (zUx (zG k r l n (fun g => (∀ q : Nat, (q < 37 ∨ 54 < q ∨ (37 < q ∧ q < 49) ∨ q = 50) → g q = h q) ∧ (∀ j, ¬ j = 18 → g 37 j = h 37 j) ∧ g 37 18 = rN p dd ∧ (∀ j : Int, 0 ≤ j → j < rN p dd → g 54 j = qN dd j) ∧ (∀ x : Int, 0 ≤ x → x < 3 * p 0 → x % 3 < dd → g 49 (5 * x) = p (11 + 2 * (x / 3)) + x % 3 * p 3 ∧ g 51 x = 0 ∧ g 52 x = 0 ∧ g 53 x = 0)))) := by
  have ok := ok_X9_setTrains
  refine zCT_of pn_X9_setTrains (Nat.le_of_ble_eq_true rfl) ?_
  show zGo _ _ _ _ _ _ 0 ([some (.ref 37), some (.ref 4), some (.int (iI (dd - 1))), none, none, none], [], _, _, _)
  refine s_ldA0 ok rfl ?_
  refine s_ci ok rfl ?_
  refine s_putJ 18 ok rfl rfl rfl rfl (fun q => by cases q) ?_
  refine s_ci ok rfl ?_
  refine s_stI3 ok rfl rfl ?_
  have p0 := hp.1
  have i0 : iN dd ((0 : Nat) : Int) 0 = 0 := by unfold iN; split <;> rfl
  have ie : iN dd (p 0) 0 = rN p dd := by unfold iN rN; split <;> omega
  refine lp_setTrains4 (E := E) (d := d) (k := k) (r := r) (l := l) (n := n) (h := h) hdd hp hR (fun g u v y ⟨e, e37, en, eq, ex⟩ => ?_) (p 0 + 1).toNat 0 _ none none rfl rfl ⟨fun q hq => zv_other (by omega), fun j hj => zv_at hj, by rw [zv_is, i0], fun j j0 j1 => by omega, fun x x0 x1 x2 => by omega⟩ (by omega) (by omega)
  rw [ie] at en eq
  exact s_retV ok rfl ⟨rfl, g, rfl, e, e37, en, eq, fun x x0 x1 x2 => ex x x0 (by omega) x2⟩
theorem lp_setTrains_in15 {E : zE} {d : Nat} {k : Nat → Nat × Nat} {h : Nat → Int → Int} {r : Nat → Int → Option Nat} {l : Nat → Nat → Int64} {n : Nat} {Q : zQ} {p : Int → Int} {w dd : Int} (hdd : dd = 1 ∨ dd = 3) (hp : pOK p) (hR : cR 15 16 17 18 19 20 21 22 23 24 k h r n p w) {tr : Nat} (htr : (tr : Int) < p 0) (hX : ∀ g u v, znl u = true → znl v = true → (∀ q : Nat, (q < 37 ∨ 54 < q ∨ (37 < q ∧ q < 49) ∨ q = 50) → g q = h q) ∧ (∀ j, ¬ j = 18 → g 37 j = h 37 j) ∧ g 37 18 = iN dd ((tr : Int)) (dd) ∧ (∀ j : Int, 0 ≤ j → j < iN dd ((tr : Int)) (dd) → g 54 j = qN dd j) ∧ (∀ x : Int, 0 ≤ x → x < 3 * ((tr : Int)) + (dd) → x % 3 < dd → g 49 (5 * x) = p (11 + 2 * (x / 3)) + x % 3 * p 3 ∧ g 51 x = 0 ∧ g 52 x = 0 ∧ g 53 x = 0) → zGo E (d + 2) M_X9_setTrains 0 0 Q 111 ([some (.ref 37), some (.ref 15), some (.int (iI (dd - 1))), some (.int (iI ((tr : Int)))), u, v], [], zJ (k, g, r, l, n), 0, 0)) : ∀ c : Nat, ∀ (m : Nat) (g : Nat → Int → Int) (u : Option Value), znl u = true → (∀ q : Nat, (q < 37 ∨ 54 < q ∨ (37 < q ∧ q < 49) ∨ q = 50) → g q = h q) ∧ (∀ j, ¬ j = 18 → g 37 j = h 37 j) ∧ g 37 18 = iN dd ((tr : Int)) ((m : Int)) ∧ (∀ j : Int, 0 ≤ j → j < iN dd ((tr : Int)) ((m : Int)) → g 54 j = qN dd j) ∧ (∀ x : Int, 0 ≤ x → x < 3 * ((tr : Int)) + ((m : Int)) → x % 3 < dd → g 49 (5 * x) = p (11 + 2 * (x / 3)) + x % 3 * p 3 ∧ g 51 x = 0 ∧ g 52 x = 0 ∧ g 53 x = 0) → dd < m + c → m ≤ dd → zGo E (d + 2) M_X9_setTrains 0 0 Q 18 ([some (.ref 37), some (.ref 15), some (.int (iI (dd - 1))), some (.int (iI ((tr : Int)))), some (.int (iI ((m : Int)))), u], [], zJ (k, g, r, l, n), 0, 0) := by
  have ok := ok_X9_setTrains
  intro c
  induction c with
  | zero =>
    intros
    omega
  | succ c ih =>
    intro m g u hu ⟨f, f37, fn, fq, fx⟩ g1 g2
    have p0 := hp.1
    have p4 := hp.2.1
    have z3 := hp.2.2.2.2.2.2.1
    have z3b := hp.2.2.2.2.2.2.2.1
    have hi : 0 ≤ iN dd (tr : Int) (m : Int) ∧ iN dd (tr : Int) (m : Int) ≤ 12 := by unfold iN; split <;> omega
    refine s_ldI4 ok rfl ?_
    refine s_ldI2 ok rfl ?_
    refine s_c_gt ok rfl ⟨by omega, by omega⟩ ⟨by omega, by omega⟩ (fun c21 => ?_) (fun c21 => ?_)
    · have em : (m : Int) = dd := by omega
      rw [em] at fn fq fx
      exact hX g _ u rfl hu ⟨f, f37, fn, fq, fx⟩
    · have mlt : (m : Int) < dd := by omega
      have hi2 : iN dd (tr : Int) (m : Int) < 12 := by unfold iN; split <;> omega
      obtain ⟨b5, b6, b7⟩ := hR.2.2.2.1 tr (by omega) (by omega)
      have r1 : h 24 1 = p 3 := (hR.2.2.2.2.2 1 (by omega) (by omega)).2
      have s1 := hp.2.2.2.2.2.2.2.2.2.2.2.2.2.2.2.1 tr (by omega) (by omega)
      have mp : 0 ≤ (m : Int) * p 3 ∧ (m : Int) * p 3 ≤ 2 * 30 := ⟨Int.mul_nonneg (by omega) (by omega), Int.mul_le_mul (by omega) z3b (by omega) (by omega)⟩
      refine s_ldI3 ok rfl ?_
      refine s_ldI4 ok rfl ?_
      refine s_callS ok rfl rfl rfl rfl (ct_pnumberOf) ?_
      refine s_stI5 ok rfl rfl ?_
      refine s_ldA0 ok rfl ?_
      refine s_getF ok rfl rfl rfl rfl ?_
      refine s_ldI3 ok rfl ?_
      refine s_ldI4 ok rfl ?_
      refine s_ci ok rfl ?_
      refine s_callS ok rfl rfl rfl rfl (ct_place) ?_
      refine s_ldA1 ok rfl ?_
      refine s_getF ok rfl rfl rfl rfl ?_
      refine s_ldI3 ok rfl ?_
      refine s_iald ok rfl (by exact rfl) (by exact rfl) (by omega) (by omega) ?_
      rw [show g 20 (tr : Int) = p (11 + 2 * (tr : Int)) from (congrFun (f 20 (by omega)) _).trans b5]
      refine s_ldI4 ok rfl ?_
      refine s_ldA1 ok rfl ?_
      refine s_getF ok rfl rfl rfl rfl ?_
      refine s_ci ok rfl ?_
      refine s_iald ok rfl (by exact rfl) (by exact rfl) (by omega) (by omega) ?_
      rw [show g 24 1 = p 3 from (congrFun (f 24 (by omega)) _).trans r1]
      refine s_mul ok rfl ?_
      refine s_add ok rfl ?_
      refine s_iast ok rfl (by exact rfl) (by exact rfl) (by omega) (by omega) (fun q => by cases q) ?_
      refine s_ldA0 ok rfl ?_
      refine s_getF ok rfl rfl rfl rfl ?_
      refine s_ldI5 ok rfl ?_
      refine s_ci ok rfl ?_
      refine s_iast ok rfl (by exact rfl) (by exact rfl) (by omega) (by omega) (fun q => by cases q) ?_
      refine s_ldA0 ok rfl ?_
      refine s_getF ok rfl rfl rfl rfl ?_
      refine s_ldI5 ok rfl ?_
      refine s_ci ok rfl ?_
      refine s_iast ok rfl (by exact rfl) (by exact rfl) (by omega) (by omega) (fun q => by cases q) ?_
      refine s_ldA0 ok rfl ?_
      refine s_getF ok rfl rfl rfl rfl ?_
      refine s_ldI5 ok rfl ?_
      refine s_ci ok rfl ?_
      refine s_iast ok rfl (by exact rfl) (by exact rfl) (by omega) (by omega) (fun q => by cases q) ?_
      refine s_ldA0 ok rfl ?_
      refine s_getF ok rfl rfl rfl rfl ?_
      refine s_ldA0 ok rfl ?_
      refine s_getJ 18 ok rfl rfl rfl rfl ?_
      rw [show (zv (zv (zv (zv g 49 (5 * (3 * (tr : Int) + (m : Int)) + 0) (p (11 + 2 * (tr : Int)) + (m : Int) * p 3)) 52 (3 * (tr : Int) + (m : Int)) 0) 53 (3 * (tr : Int) + (m : Int)) 0) 51 (3 * (tr : Int) + (m : Int)) 0) 37 18 = iN dd (tr : Int) (m : Int) from (congrFun (zv_other (by omega)) _).trans ((congrFun (zv_other (by omega)) _).trans ((congrFun (zv_other (by omega)) _).trans ((congrFun (zv_other (by omega)) _).trans fn)))]
      refine s_ldI5 ok rfl ?_
      refine s_iast ok rfl (by exact rfl) (by exact rfl) (by omega) (by omega) (fun q => by cases q) ?_
      refine s_ldA0 ok rfl ?_
      refine s_dupA ok rfl ?_
      refine s_getJ 18 ok rfl rfl rfl rfl ?_
      rw [show (zv (zv (zv (zv (zv g 49 (5 * (3 * (tr : Int) + (m : Int)) + 0) (p (11 + 2 * (tr : Int)) + (m : Int) * p 3)) 52 (3 * (tr : Int) + (m : Int)) 0) 53 (3 * (tr : Int) + (m : Int)) 0) 51 (3 * (tr : Int) + (m : Int)) 0) 54 (iN dd (tr : Int) (m : Int)) (3 * (tr : Int) + (m : Int))) 37 18 = iN dd (tr : Int) (m : Int) from (congrFun (zv_other (by omega)) _).trans ((congrFun (zv_other (by omega)) _).trans ((congrFun (zv_other (by omega)) _).trans ((congrFun (zv_other (by omega)) _).trans ((congrFun (zv_other (by omega)) _).trans fn))))]
      refine s_ci ok rfl ?_
      refine s_add ok rfl ?_
      refine s_putJ 18 ok rfl rfl rfl rfl (fun q => by cases q) ?_
      refine s_inc4 ok rfl rfl ?_
      refine s_goto ok rfl ?_
      have i1 : iN dd (tr : Int) ((m + 1 : Nat) : Int) = iN dd (tr : Int) (m : Int) + 1 := by unfold iN; split <;> omega
      have o : ∀ q, ¬ q = 49 → ¬ q = 52 → ¬ q = 53 → ¬ q = 51 → ¬ q = 54 → ¬ q = 37 → (zv (zv (zv (zv (zv (zv g 49 (5 * (3 * (tr : Int) + (m : Int)) + 0) (p (11 + 2 * (tr : Int)) + (m : Int) * p 3)) 52 (3 * (tr : Int) + (m : Int)) 0) 53 (3 * (tr : Int) + (m : Int)) 0) 51 (3 * (tr : Int) + (m : Int)) 0) 54 (iN dd (tr : Int) (m : Int)) (3 * (tr : Int) + (m : Int))) 37 18 (iN dd (tr : Int) (m : Int) + 1)) q = g q := fun q h1 h2 h3 h4 h5 h6 => by
        rw [zv_other h6, zv_other h5, zv_other h4, zv_other h3, zv_other h2, zv_other h1]
      have w49 : (zv (zv (zv (zv (zv (zv g 49 (5 * (3 * (tr : Int) + (m : Int)) + 0) (p (11 + 2 * (tr : Int)) + (m : Int) * p 3)) 52 (3 * (tr : Int) + (m : Int)) 0) 53 (3 * (tr : Int) + (m : Int)) 0) 51 (3 * (tr : Int) + (m : Int)) 0) 54 (iN dd (tr : Int) (m : Int)) (3 * (tr : Int) + (m : Int))) 37 18 (iN dd (tr : Int) (m : Int) + 1)) 49 = zv g 49 (5 * (3 * (tr : Int) + (m : Int)) + 0) (p (11 + 2 * (tr : Int)) + (m : Int) * p 3) 49 := by rw [zv_other (by omega), zv_other (by omega), zv_other (by omega), zv_other (by omega), zv_other (by omega)]
      have w51 : ∀ j, (zv (zv (zv (zv (zv (zv g 49 (5 * (3 * (tr : Int) + (m : Int)) + 0) (p (11 + 2 * (tr : Int)) + (m : Int) * p 3)) 52 (3 * (tr : Int) + (m : Int)) 0) 53 (3 * (tr : Int) + (m : Int)) 0) 51 (3 * (tr : Int) + (m : Int)) 0) 54 (iN dd (tr : Int) (m : Int)) (3 * (tr : Int) + (m : Int))) 37 18 (iN dd (tr : Int) (m : Int) + 1)) 51 j = if j = (3 * (tr : Int) + (m : Int)) then 0 else g 51 j := fun j => by
        rw [zv_other (by omega), zv_other (by omega), zv_eq]
        by_cases c : j = (3 * (tr : Int) + (m : Int))
        · rw [if_pos ⟨rfl, c⟩, if_pos c]
        · rw [if_neg (fun z => c z.2), if_neg c, zv_other (by omega), zv_other (by omega), zv_other (by omega)]
      have w52 : ∀ j, (zv (zv (zv (zv (zv (zv g 49 (5 * (3 * (tr : Int) + (m : Int)) + 0) (p (11 + 2 * (tr : Int)) + (m : Int) * p 3)) 52 (3 * (tr : Int) + (m : Int)) 0) 53 (3 * (tr : Int) + (m : Int)) 0) 51 (3 * (tr : Int) + (m : Int)) 0) 54 (iN dd (tr : Int) (m : Int)) (3 * (tr : Int) + (m : Int))) 37 18 (iN dd (tr : Int) (m : Int) + 1)) 52 j = if j = (3 * (tr : Int) + (m : Int)) then 0 else g 52 j := fun j => by
        rw [zv_other (by omega), zv_other (by omega), zv_other (by omega), zv_other (by omega), zv_eq]
        by_cases c : j = (3 * (tr : Int) + (m : Int))
        · rw [if_pos ⟨rfl, c⟩, if_pos c]
        · rw [if_neg (fun z => c z.2), if_neg c, zv_other (by omega)]
      have w53 : ∀ j, (zv (zv (zv (zv (zv (zv g 49 (5 * (3 * (tr : Int) + (m : Int)) + 0) (p (11 + 2 * (tr : Int)) + (m : Int) * p 3)) 52 (3 * (tr : Int) + (m : Int)) 0) 53 (3 * (tr : Int) + (m : Int)) 0) 51 (3 * (tr : Int) + (m : Int)) 0) 54 (iN dd (tr : Int) (m : Int)) (3 * (tr : Int) + (m : Int))) 37 18 (iN dd (tr : Int) (m : Int) + 1)) 53 j = if j = (3 * (tr : Int) + (m : Int)) then 0 else g 53 j := fun j => by
        rw [zv_other (by omega), zv_other (by omega), zv_other (by omega), zv_eq]
        by_cases c : j = (3 * (tr : Int) + (m : Int))
        · rw [if_pos ⟨rfl, c⟩, if_pos c]
        · rw [if_neg (fun z => c z.2), if_neg c, zv_other (by omega), zv_other (by omega)]
      have w54 : ∀ j, (zv (zv (zv (zv (zv (zv g 49 (5 * (3 * (tr : Int) + (m : Int)) + 0) (p (11 + 2 * (tr : Int)) + (m : Int) * p 3)) 52 (3 * (tr : Int) + (m : Int)) 0) 53 (3 * (tr : Int) + (m : Int)) 0) 51 (3 * (tr : Int) + (m : Int)) 0) 54 (iN dd (tr : Int) (m : Int)) (3 * (tr : Int) + (m : Int))) 37 18 (iN dd (tr : Int) (m : Int) + 1)) 54 j = if j = iN dd (tr : Int) (m : Int) then (3 * (tr : Int) + (m : Int)) else g 54 j := fun j => by
        rw [zv_other (by omega), zv_eq]
        by_cases c : j = iN dd (tr : Int) (m : Int)
        · rw [if_pos ⟨rfl, c⟩, if_pos c]
        · rw [if_neg (fun z => c z.2), if_neg c, zv_other (by omega), zv_other (by omega), zv_other (by omega), zv_other (by omega)]
      refine ih (m + 1) _ _ rfl ⟨fun q hq => ?_, fun j hj => ?_, ?_, fun j j0 j1 => ?_, fun x x0 x1 x2 => ?_⟩ (by omega) (by omega)
      · rw [o q (by omega) (by omega) (by omega) (by omega) (by omega) (by omega)]
        exact f q hq
      · rw [zv_at hj, zv_other (by omega), zv_other (by omega), zv_other (by omega), zv_other (by omega), zv_other (by omega)]
        exact f37 j hj
      · rw [zv_is, i1]
      · rw [i1] at j1
        rw [w54]
        by_cases c : j = iN dd (tr : Int) (m : Int)
        · rw [if_pos c, c]
          unfold qN iN
          rcases hdd with e | e <;> subst e
          · rw [if_pos rfl, if_pos rfl]; omega
          · rw [if_neg (by omega), if_neg (by omega)]
        · rw [if_neg c]
          exact fq j j0 (by omega)
      · rw [w49, w51, w52, w53]
        by_cases c : x = (3 * (tr : Int) + (m : Int))
        · rw [if_pos c, if_pos c, if_pos c, c, show (5 * (3 * (tr : Int) + (m : Int)) + 0 : Int) = 5 * (3 * (tr : Int) + (m : Int)) by omega, zv_is, show (3 * (tr : Int) + (m : Int)) / 3 = (tr : Int) by omega, show (3 * (tr : Int) + (m : Int)) % 3 = (m : Int) by omega]
          exact ⟨rfl, rfl, rfl, rfl⟩
        · rw [if_neg c, if_neg c, if_neg c, zv_at (by omega)]
          exact fx x x0 (by omega) x2
theorem lp_setTrains15 {E : zE} {d : Nat} {k : Nat → Nat × Nat} {h : Nat → Int → Int} {r : Nat → Int → Option Nat} {l : Nat → Nat → Int64} {n : Nat} {Q : zQ} {p : Int → Int} {w dd : Int} (hdd : dd = 1 ∨ dd = 3) (hp : pOK p) (hR : cR 15 16 17 18 19 20 21 22 23 24 k h r n p w) (hX : ∀ g u v y, (∀ q : Nat, (q < 37 ∨ 54 < q ∨ (37 < q ∧ q < 49) ∨ q = 50) → g q = h q) ∧ (∀ j, ¬ j = 18 → g 37 j = h 37 j) ∧ g 37 18 = iN dd (p 0) (0) ∧ (∀ j : Int, 0 ≤ j → j < iN dd (p 0) (0) → g 54 j = qN dd j) ∧ (∀ x : Int, 0 ≤ x → x < 3 * (p 0) + (0) → x % 3 < dd → g 49 (5 * x) = p (11 + 2 * (x / 3)) + x % 3 * p 3 ∧ g 51 x = 0 ∧ g 52 x = 0 ∧ g 53 x = 0) → zGo E (d + 2) M_X9_setTrains 0 0 Q 117 ([some (.ref 37), some (.ref 15), some (.int (iI (dd - 1))), u, v, y], [], zJ (k, g, r, l, n), 0, 0)) : ∀ c : Nat, ∀ (m : Nat) (g : Nat → Int → Int) (u v : Option Value), znl u = true → znl v = true → (∀ q : Nat, (q < 37 ∨ 54 < q ∨ (37 < q ∧ q < 49) ∨ q = 50) → g q = h q) ∧ (∀ j, ¬ j = 18 → g 37 j = h 37 j) ∧ g 37 18 = iN dd ((m : Int)) (0) ∧ (∀ j : Int, 0 ≤ j → j < iN dd ((m : Int)) (0) → g 54 j = qN dd j) ∧ (∀ x : Int, 0 ≤ x → x < 3 * ((m : Int)) + (0) → x % 3 < dd → g 49 (5 * x) = p (11 + 2 * (x / 3)) + x % 3 * p 3 ∧ g 51 x = 0 ∧ g 52 x = 0 ∧ g 53 x = 0) → p 0 < m + c → m ≤ p 0 → zGo E (d + 2) M_X9_setTrains 0 0 Q 7 ([some (.ref 37), some (.ref 15), some (.int (iI (dd - 1))), some (.int (iI ((m : Int)))), u, v], [], zJ (k, g, r, l, n), 0, 0) := by
  have ok := ok_X9_setTrains
  intro c
  induction c with
  | zero =>
    intros
    omega
  | succ c ih =>
    intro m g u v hu hv ⟨f, f37, fn, fq, fx⟩ g1 g2
    have p0 := hp.1
    have p4 := hp.2.1
    refine s_ldI3 ok rfl ?_
    refine s_ldA1 ok rfl ?_
    refine s_getJ 5 ok rfl rfl rfl rfl ?_
    rw [show g 15 5 = p 0 from (congrFun (f 15 (by omega)) 5).trans hR.1.2]
    refine s_c_ge ok rfl ⟨by omega, by omega⟩ ⟨by omega, by omega⟩ (fun c12 => ?_) (fun c12 => ?_)
    · have em : (m : Int) = p 0 := by omega
      rw [em] at fn fq fx
      exact hX g _ u v ⟨f, f37, fn, fq, fx⟩
    · refine s_ci ok rfl ?_
      refine s_stI4 ok rfl rfl ?_
      refine lp_setTrains_in15 (E := E) (d := d) (k := k) (r := r) (l := l) (n := n) (h := h) hdd hp hR (tr := m) (by omega) (fun g2 u2 v2 hu2 hv2 ⟨e, e37, en, eq, ex⟩ => ?_) (dd + 1).toNat 0 g v hv ⟨f, f37, fn, fq, fx⟩ (by omega) (by omega)
      refine s_inc3 ok rfl rfl ?_
      refine s_goto ok rfl ?_
      have j1 : iN dd ((m + 1 : Nat) : Int) 0 = iN dd (m : Int) dd := by
        unfold iN
        rcases hdd with c9 | c9 <;> subst c9
        · rw [if_pos rfl, if_pos rfl]; omega
        · rw [if_neg (by omega), if_neg (by omega)]; omega
      refine ih (m + 1) g2 u2 v2 hu2 hv2 ⟨e, e37, by rw [j1]; exact en, by rw [j1]; exact eq, fun x x0 x1 x2 => ex x x0 (by omega) x2⟩ (by omega) (by omega)
theorem ct_setTrains15 {E : zE} {d : Nat} {k : Nat → Nat × Nat} {h : Nat → Int → Int} {r : Nat → Int → Option Nat} {l : Nat → Nat → Int64} {n : Nat} {p : Int → Int} {w dd : Int} (hdd : dd = 1 ∨ dd = 3) (hp : pOK p) (hR : cR 15 16 17 18 19 20 21 22 23 24 k h r n p w) : zCT E (d + 2) M_X9_setTrains [.ref 37, .ref 15, .int (iI (dd - 1))] (zJ (k, h, r, l, n)) 0 0 (zUx (zG k r l n (fun g => (∀ q : Nat, (q < 37 ∨ 54 < q ∨ (37 < q ∧ q < 49) ∨ q = 50) → g q = h q) ∧ (∀ j, ¬ j = 18 → g 37 j = h 37 j) ∧ g 37 18 = rN p dd ∧ (∀ j : Int, 0 ≤ j → j < rN p dd → g 54 j = qN dd j) ∧ (∀ x : Int, 0 ≤ x → x < 3 * p 0 → x % 3 < dd → g 49 (5 * x) = p (11 + 2 * (x / 3)) + x % 3 * p 3 ∧ g 51 x = 0 ∧ g 52 x = 0 ∧ g 53 x = 0)))) := by
  have ok := ok_X9_setTrains
  refine zCT_of pn_X9_setTrains (Nat.le_of_ble_eq_true rfl) ?_
  show zGo _ _ _ _ _ _ 0 ([some (.ref 37), some (.ref 15), some (.int (iI (dd - 1))), none, none, none], [], _, _, _)
  refine s_ldA0 ok rfl ?_
  refine s_ci ok rfl ?_
  refine s_putJ 18 ok rfl rfl rfl rfl (fun q => by cases q) ?_
  refine s_ci ok rfl ?_
  refine s_stI3 ok rfl rfl ?_
  have p0 := hp.1
  have i0 : iN dd ((0 : Nat) : Int) 0 = 0 := by unfold iN; split <;> rfl
  have ie : iN dd (p 0) 0 = rN p dd := by unfold iN rN; split <;> omega
  refine lp_setTrains15 (E := E) (d := d) (k := k) (r := r) (l := l) (n := n) (h := h) hdd hp hR (fun g u v y ⟨e, e37, en, eq, ex⟩ => ?_) (p 0 + 1).toNat 0 _ none none rfl rfl ⟨fun q hq => zv_other (by omega), fun j hj => zv_at hj, by rw [zv_is, i0], fun j j0 j1 => by omega, fun x x0 x1 x2 => by omega⟩ (by omega) (by omega)
  rw [ie] at en eq
  exact s_retV ok rfl ⟨rfl, g, rfl, e, e37, en, eq, fun x x0 x1 x2 => ex x x0 (by omega) x2⟩
