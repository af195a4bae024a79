def zkt9 (n : Nat) : Nat × Nat := zKt n
def zktAll : Bool := (List.range 87).all fun v => Nat.ble v 2 || Nat.beq v 14 || Nat.beq v 25 || Nat.beq v 36 || !Nat.beq (zkt9 v).2 2 || !zmem (zkt9 v).1 [0, 1, 2, 5, 6, 7, 8, 10]
theorem zktAll_ok : zktAll = true := by decide +kernel
theorem zkF_t {k : Nat → Nat × Nat} {v : Nat} (h0 : 3 ≤ v) (h1 : v ≤ 86) : zkF k v = zkt9 v := by
  unfold zkF zkt9
  rw [Nat.ble_eq_true_of_le h0, Nat.ble_eq_true_of_le h1]
  rfl
theorem zkt9_no {v : Nat} (h0 : 3 ≤ v) (h1 : v ≤ 86) (h2 : v ≠ 14) (h3 : v ≠ 25) (h4 : v ≠ 36) : (zkt9 v).2 ≠ 2 ∨ zmem (zkt9 v).1 [0, 1, 2, 5, 6, 7, 8, 10] = false := by
  have a := List.all_eq_true.mp zktAll_ok v (List.mem_range.mpr (by omega))
  have b1 : Nat.ble v 2 = false := by
    cases e : Nat.ble v 2
    · rfl
    · have := Nat.le_of_ble_eq_true e
      omega
  have b2 : ∀ m, v ≠ m → Nat.beq v m = false := fun m hm => by
    cases e : Nat.beq v m
    · rfl
    · exact absurd (Nat.eq_of_beq_eq_true e) hm
  rw [b1, b2 14 h2, b2 25 h3, b2 36 h4] at a
  simp only [Bool.false_or, Bool.or_eq_true, Bool.not_eq_true'] at a
  rcases a with q | q
  · exact Or.inl (fun z => by rw [z] at q; cases q)
  · exact Or.inr q
/-! plans: tests, become -/
/-- how many people stand in a plan out of which w was left; whose numbers are the t-th's -/
def cnP (p : Int → Int) (w : Int) : Int := if 0 ≤ w ∧ w < p 6 then p 6 - 1 else p 6
def sg (w t : Int) : Int := if 0 ≤ w ∧ w ≤ t then t + 1 else t
/-- the plan P with its arrays holds the numbers p, w left out -/
def cR (P a1 a2 a3 a4 a5 a6 a7 a8 a9 : Nat) (k : Nat → Nat × Nat) (h : Nat → Int → Int) (r : Nat → Int → Option Nat) (n : Nat) (p : Int → Int) (w : Int) : Prop :=
  (h P 0 = cnP p w ∧ h P 5 = p 0) ∧
  (∀ t : Int, 0 ≤ t → t < cnP p w → ∃ v, r a1 t = some v ∧ wk k h v (pK p (sg w t)) (pF p (sg w t)) ∧ h a2 t = pFr p (sg w t) ∧ h a3 t = pTo p (sg w t) ∧ h a4 t = pBa p (sg w t)) ∧
  (∀ t : Int, 0 ≤ t → t < 8 → ∃ v c, r a1 t = some v ∧ zkF k v = (c, 2) ∧ zmem c [0, 1, 2, 5, 6, 7, 8, 10] = true ∧ v < n) ∧
  (∀ x : Int, 0 ≤ x → x < p 0 → h a5 x = p (11 + 2 * x) ∧ h a6 x = p (11 + 2 * x + 1) ∧ h a7 x = zbt (p 1) x) ∧
  (∀ j : Int, 0 ≤ j → j < 4 → (h a7 j = 0 ∨ h a7 j = 1)) ∧
  (∀ j : Int, 0 ≤ j → j < 4 → h a8 j = p (7 + j) ∧ h a9 j = p (2 + j))
theorem cnP_in {p : Int → Int} {w : Int} (hp : pOK p) : 0 ≤ cnP p w ∧ cnP p w ≤ 8 := by
  have a := hp.2.2.2.2.2.2.2.2.2.2.2.2.1
  have b := hp.2.2.2.2.2.2.2.2.2.2.2.2.2.1
  unfold cnP
  split <;> omega
/-- cells of travellers' kinds are the same -/
def fW (k : Nat → Nat × Nat) (h g : Nat → Int → Int) : Prop := ∀ (v c : Nat), zkF k v = (c, 2) → zmem c [0, 1, 2, 5, 6, 7, 8, 10] = true → g v = h v
theorem fW.rf {k : Nat → Nat × Nat} {h : Nat → Int → Int} : fW k h h := fun _ _ _ _ => rfl
theorem fW.tr {k : Nat → Nat × Nat} {h g f : Nat → Int → Int} (a : fW k h g) (b : fW k g f) : fW k h f := fun v c e m => (b v c e m).trans (a v c e m)
theorem wk_fr {k : Nat → Nat × Nat} {h g : Nat → Int → Int} {v : Nat} {K F : Int} (w : wk k h v K F) (f : fW k h g) : wk k g v K F := by
  have e := f v _ w.1 (wk_c w).1
  exact ⟨w.1, ⟨by rw [e]; exact w.2.1.1, by rw [e]; exact w.2.1.2⟩, w.2.2⟩
theorem fW_fix {k : Nat → Nat × Nat} {h g : Nat → Int → Int} (f : ∀ q : Nat, q < 3 ∨ 86 < q ∨ q = 14 ∨ q = 25 ∨ q = 36 → g q = h q) : fW k h g := fun v c e m => by
  by_cases q : v < 3 ∨ 86 < v ∨ v = 14 ∨ v = 25 ∨ v = 36
  · exact f v q
  · exfalso
    have hv : zkF k v = zkt9 v := zkF_t (by omega) (by omega)
    rw [hv] at e
    have := zkt9_no (v := v) (by omega) (by omega) (by omega) (by omega) (by omega)
    rw [e] at this
    dsimp only at this
    rcases this with q9 | q9
    · exact q9 rfl
    · rw [q9] at m
      cases m
theorem ct_pisStop {E : zE} {d : Nat} {k : Nat → Nat × Nat} {h : Nat → Int → Int} {r : Nat → Int → Option Nat} {l : Nat → Nat → Int64} {n : Nat} {t : Int} (zt : zb t) : zCT E d M_X3_isStop [.int (iI (t))] (zJ (k, h, r, l, n)) 0 0 (zV (.int (iI (if 0 ≤ t ∧ t ≤ 4 then 1 else 0))) (zJ (k, h, r, l, n))) := by
  have ok := ok_X3_isStop
  refine zCT_of pn_X3_isStop (Nat.le_of_ble_eq_true rfl) ?_
  show zGo _ _ _ _ _ _ 0 ([some (.int (iI (t)))], [], _, _, _)
  refine s_ldI0 ok rfl ?_
  refine s_if_lt ok rfl zt (fun c1 => ?_) (fun c1 => ?_)
  · refine s_ci ok rfl ?_
    refine s_retZ ok rfl (by first | exact Or.inl rfl | exact Or.inr rfl) ⟨congrArg (fun z => some (Value.int (iI z))) (by first | exact (if_pos (by omega)).symm | exact (if_neg (by omega)).symm), rfl⟩
  · refine s_ldI0 ok rfl ?_
    refine s_ci ok rfl ?_
    refine s_c_gt ok rfl zt ⟨by omega, by omega⟩ (fun c6 => ?_) (fun c6 => ?_)
    · refine s_ci ok rfl ?_
      refine s_retZ ok rfl (by first | exact Or.inl rfl | exact Or.inr rfl) ⟨congrArg (fun z => some (Value.int (iI z))) (by first | exact (if_pos (by omega)).symm | exact (if_neg (by omega)).symm), rfl⟩
    · refine s_ci ok rfl ?_
      refine s_goto ok rfl ?_
      refine s_retZ ok rfl (by first | exact Or.inl rfl | exact Or.inr rfl) ⟨congrArg (fun z => some (Value.int (iI z))) (by first | exact (if_pos (by omega)).symm | exact (if_neg (by omega)).symm), rfl⟩
theorem ct_pisPiece {E : zE} {d : Nat} {k : Nat → Nat × Nat} {h : Nat → Int → Int} {r : Nat → Int → Option Nat} {l : Nat → Nat → Int64} {n : Nat} {t : Int} (zt : zb t) : zCT E d M_X3_isPiece [.int (iI (t))] (zJ (k, h, r, l, n)) 0 0 (zV (.int (iI (if 0 ≤ t ∧ t ≤ 3 then 1 else 0))) (zJ (k, h, r, l, n))) := by
  have ok := ok_X3_isPiece
  refine zCT_of pn_X3_isPiece (Nat.le_of_ble_eq_true rfl) ?_
  show zGo _ _ _ _ _ _ 0 ([some (.int (iI (t)))], [], _, _, _)
  refine s_ldI0 ok rfl ?_
  refine s_if_lt ok rfl zt (fun c1 => ?_) (fun c1 => ?_)
  · refine s_ci ok rfl ?_
    refine s_retZ ok rfl (by first | exact Or.inl rfl | exact Or.inr rfl) ⟨congrArg (fun z => some (Value.int (iI z))) (by first | exact (if_pos (by omega)).symm | exact (if_neg (by omega)).symm), rfl⟩
  · refine s_ldI0 ok rfl ?_
    refine s_ci ok rfl ?_
    refine s_c_ge ok rfl zt ⟨by omega, by omega⟩ (fun c6 => ?_) (fun c6 => ?_)
    · refine s_ci ok rfl ?_
      refine s_retZ ok rfl (by first | exact Or.inl rfl | exact Or.inr rfl) ⟨congrArg (fun z => some (Value.int (iI z))) (by first | exact (if_pos (by omega)).symm | exact (if_neg (by omega)).symm), rfl⟩
    · refine s_ci ok rfl ?_
      refine s_goto ok rfl ?_
      refine s_retZ ok rfl (by first | exact Or.inl rfl | exact Or.inr rfl) ⟨congrArg (fun z => some (Value.int (iI z))) (by first | exact (if_pos (by omega)).symm | exact (if_neg (by omega)).symm), rfl⟩
theorem ct_pisRun {E : zE} {d : Nat} {k : Nat → Nat × Nat} {h : Nat → Int → Int} {r : Nat → Int → Option Nat} {l : Nat → Nat → Int64} {n : Nat} {t : Int} (zt : zb t) : zCT E d M_X3_isRun [.int (iI (t))] (zJ (k, h, r, l, n)) 0 0 (zV (.int (iI (if 1 ≤ t ∧ t ≤ 60 then 1 else 0))) (zJ (k, h, r, l, n))) := by
  have ok := ok_X3_isRun
  refine zCT_of pn_X3_isRun (Nat.le_of_ble_eq_true rfl) ?_
  show zGo _ _ _ _ _ _ 0 ([some (.int (iI (t)))], [], _, _, _)
  refine s_ldI0 ok rfl ?_
  refine s_ci ok rfl ?_
  refine s_c_lt ok rfl zt ⟨by omega, by omega⟩ (fun c2 => ?_) (fun c2 => ?_)
  · refine s_ci ok rfl ?_
    refine s_retZ ok rfl (by first | exact Or.inl rfl | exact Or.inr rfl) ⟨congrArg (fun z => some (Value.int (iI z))) (by first | exact (if_pos (by omega)).symm | exact (if_neg (by omega)).symm), rfl⟩
  · refine s_ldI0 ok rfl ?_
    refine s_ci ok rfl ?_
    refine s_c_gt ok rfl zt ⟨by omega, by omega⟩ (fun c8 => ?_) (fun c8 => ?_)
    · refine s_ci ok rfl ?_
      refine s_retZ ok rfl (by first | exact Or.inl rfl | exact Or.inr rfl) ⟨congrArg (fun z => some (Value.int (iI z))) (by first | exact (if_pos (by omega)).symm | exact (if_neg (by omega)).symm), rfl⟩
    · refine s_ci ok rfl ?_
      refine s_goto ok rfl ?_
      refine s_retZ ok rfl (by first | exact Or.inl rfl | exact Or.inr rfl) ⟨congrArg (fun z => some (Value.int (iI z))) (by first | exact (if_pos (by omega)).symm | exact (if_neg (by omega)).symm), rfl⟩
theorem ct_pisStart {E : zE} {d : Nat} {k : Nat → Nat × Nat} {h : Nat → Int → Int} {r : Nat → Int → Option Nat} {l : Nat → Nat → Int64} {n : Nat} {t : Int} (zt : zb t) : zCT E d M_X3_isStart [.int (iI (t))] (zJ (k, h, r, l, n)) 0 0 (zV (.int (iI (if 0 ≤ t ∧ t ≤ 300 then 1 else 0))) (zJ (k, h, r, l, n))) := by
  have ok := ok_X3_isStart
  refine zCT_of pn_X3_isStart (Nat.le_of_ble_eq_true rfl) ?_
  show zGo _ _ _ _ _ _ 0 ([some (.int (iI (t)))], [], _, _, _)
  refine s_ldI0 ok rfl ?_
  refine s_if_lt ok rfl zt (fun c1 => ?_) (fun c1 => ?_)
  · refine s_ci ok rfl ?_
    refine s_retZ ok rfl (by first | exact Or.inl rfl | exact Or.inr rfl) ⟨congrArg (fun z => some (Value.int (iI z))) (by first | exact (if_pos (by omega)).symm | exact (if_neg (by omega)).symm), rfl⟩
  · refine s_ldI0 ok rfl ?_
    refine s_ci ok rfl ?_
    refine s_c_gt ok rfl zt ⟨by omega, by omega⟩ (fun c8 => ?_) (fun c8 => ?_)
    · refine s_ci ok rfl ?_
      refine s_retZ ok rfl (by first | exact Or.inl rfl | exact Or.inr rfl) ⟨congrArg (fun z => some (Value.int (iI z))) (by first | exact (if_pos (by omega)).symm | exact (if_neg (by omega)).symm), rfl⟩
    · refine s_ci ok rfl ?_
      refine s_goto ok rfl ?_
      refine s_retZ ok rfl (by first | exact Or.inl rfl | exact Or.inr rfl) ⟨congrArg (fun z => some (Value.int (iI z))) (by first | exact (if_pos (by omega)).symm | exact (if_neg (by omega)).symm), rfl⟩
theorem ct_pisSeats {E : zE} {d : Nat} {k : Nat → Nat × Nat} {h : Nat → Int → Int} {r : Nat → Int → Option Nat} {l : Nat → Nat → Int64} {n : Nat} {t : Int} (zt : zb t) : zCT E d M_X3_isSeats [.int (iI (t))] (zJ (k, h, r, l, n)) 0 0 (zV (.int (iI (if 0 ≤ t ∧ t ≤ 9 then 1 else 0))) (zJ (k, h, r, l, n))) := by
  have ok := ok_X3_isSeats
  refine zCT_of pn_X3_isSeats (Nat.le_of_ble_eq_true rfl) ?_
  show zGo _ _ _ _ _ _ 0 ([some (.int (iI (t)))], [], _, _, _)
  refine s_ldI0 ok rfl ?_
  refine s_if_lt ok rfl zt (fun c1 => ?_) (fun c1 => ?_)
  · refine s_ci ok rfl ?_
    refine s_retZ ok rfl (by first | exact Or.inl rfl | exact Or.inr rfl) ⟨congrArg (fun z => some (Value.int (iI z))) (by first | exact (if_pos (by omega)).symm | exact (if_neg (by omega)).symm), rfl⟩
  · refine s_ldI0 ok rfl ?_
    refine s_ci ok rfl ?_
    refine s_c_gt ok rfl zt ⟨by omega, by omega⟩ (fun c7 => ?_) (fun c7 => ?_)
    · refine s_ci ok rfl ?_
      refine s_retZ ok rfl (by first | exact Or.inl rfl | exact Or.inr rfl) ⟨congrArg (fun z => some (Value.int (iI z))) (by first | exact (if_pos (by omega)).symm | exact (if_neg (by omega)).symm), rfl⟩
    · refine s_ci ok rfl ?_
      refine s_goto ok rfl ?_
      refine s_retZ ok rfl (by first | exact Or.inl rfl | exact Or.inr rfl) ⟨congrArg (fun z => some (Value.int (iI z))) (by first | exact (if_pos (by omega)).symm | exact (if_neg (by omega)).symm), rfl⟩
theorem ct_pisBase {E : zE} {d : Nat} {k : Nat → Nat × Nat} {h : Nat → Int → Int} {r : Nat → Int → Option Nat} {l : Nat → Nat → Int64} {n : Nat} {t : Int} (zt : zb t) : zCT E d M_X3_isBase [.int (iI (t))] (zJ (k, h, r, l, n)) 0 0 (zV (.int (iI (if 0 ≤ t ∧ t ≤ 300 then 1 else 0))) (zJ (k, h, r, l, n))) := by
  have ok := ok_X3_isBase
  refine zCT_of pn_X3_isBase (Nat.le_of_ble_eq_true rfl) ?_
  show zGo _ _ _ _ _ _ 0 ([some (.int (iI (t)))], [], _, _, _)
  refine s_ldI0 ok rfl ?_
  refine s_if_lt ok rfl zt (fun c1 => ?_) (fun c1 => ?_)
  · refine s_ci ok rfl ?_
    refine s_retZ ok rfl (by first | exact Or.inl rfl | exact Or.inr rfl) ⟨congrArg (fun z => some (Value.int (iI z))) (by first | exact (if_pos (by omega)).symm | exact (if_neg (by omega)).symm), rfl⟩
  · refine s_ldI0 ok rfl ?_
    refine s_ci ok rfl ?_
    refine s_c_gt ok rfl zt ⟨by omega, by omega⟩ (fun c8 => ?_) (fun c8 => ?_)
    · refine s_ci ok rfl ?_
      refine s_retZ ok rfl (by first | exact Or.inl rfl | exact Or.inr rfl) ⟨congrArg (fun z => some (Value.int (iI z))) (by first | exact (if_pos (by omega)).symm | exact (if_neg (by omega)).symm), rfl⟩
    · refine s_ci ok rfl ?_
      refine s_goto ok rfl ?_
      refine s_retZ ok rfl (by first | exact Or.inl rfl | exact Or.inr rfl) ⟨congrArg (fun z => some (Value.int (iI z))) (by first | exact (if_pos (by omega)).symm | exact (if_neg (by omega)).symm), rfl⟩
theorem ct_pisKind {E : zE} {d : Nat} {k : Nat → Nat × Nat} {h : Nat → Int → Int} {r : Nat → Int → Option Nat} {l : Nat → Nat → Int64} {n : Nat} {t : Int} (zt : zb t) : zCT E d M_X10_isKind [.int (iI (t))] (zJ (k, h, r, l, n)) 0 0 (zV (.int (iI (if 0 ≤ t ∧ t ≤ 7 then 1 else 0))) (zJ (k, h, r, l, n))) := by
  have ok := ok_X10_isKind
  refine zCT_of pn_X10_isKind (Nat.le_of_ble_eq_true rfl) ?_
  show zGo _ _ _ _ _ _ 0 ([some (.int (iI (t)))], [], _, _, _)
  refine s_ldI0 ok rfl ?_
  refine s_if_lt ok rfl zt (fun c1 => ?_) (fun c1 => ?_)
  · refine s_ci ok rfl ?_
    refine s_retZ ok rfl (by first | exact Or.inl rfl | exact Or.inr rfl) ⟨congrArg (fun z => some (Value.int (iI z))) (by first | exact (if_pos (by omega)).symm | exact (if_neg (by omega)).symm), rfl⟩
  · refine s_ldI0 ok rfl ?_
    refine s_ci ok rfl ?_
    refine s_c_gt ok rfl zt ⟨by omega, by omega⟩ (fun c7 => ?_) (fun c7 => ?_)
    · refine s_ci ok rfl ?_
      refine s_retZ ok rfl (by first | exact Or.inl rfl | exact Or.inr rfl) ⟨congrArg (fun z => some (Value.int (iI z))) (by first | exact (if_pos (by omega)).symm | exact (if_neg (by omega)).symm), rfl⟩
    · refine s_ci ok rfl ?_
      refine s_goto ok rfl ?_
      refine s_retZ ok rfl (by first | exact Or.inl rfl | exact Or.inr rfl) ⟨congrArg (fun z => some (Value.int (iI z))) (by first | exact (if_pos (by omega)).symm | exact (if_neg (by omega)).symm), rfl⟩
theorem ct_pisFigure {E : zE} {d : Nat} {k : Nat → Nat × Nat} {h : Nat → Int → Int} {r : Nat → Int → Option Nat} {l : Nat → Nat → Int64} {n : Nat} {t : Int} (zt : zb t) : zCT E d M_X10_isFigure [.int (iI (t))] (zJ (k, h, r, l, n)) 0 0 (zV (.int (iI (if 0 ≤ t ∧ t ≤ 9 then 1 else 0))) (zJ (k, h, r, l, n))) := by
  have ok := ok_X10_isFigure
  refine zCT_of pn_X10_isFigure (Nat.le_of_ble_eq_true rfl) ?_
  show zGo _ _ _ _ _ _ 0 ([some (.int (iI (t)))], [], _, _, _)
  refine s_ldI0 ok rfl ?_
  refine s_if_lt ok rfl zt (fun c1 => ?_) (fun c1 => ?_)
  · refine s_ci ok rfl ?_
    refine s_retZ ok rfl (by first | exact Or.inl rfl | exact Or.inr rfl) ⟨congrArg (fun z => some (Value.int (iI z))) (by first | exact (if_pos (by omega)).symm | exact (if_neg (by omega)).symm), rfl⟩
  · refine s_ldI0 ok rfl ?_
    refine s_ci ok rfl ?_
    refine s_c_gt ok rfl zt ⟨by omega, by omega⟩ (fun c7 => ?_) (fun c7 => ?_)
    · refine s_ci ok rfl ?_
      refine s_retZ ok rfl (by first | exact Or.inl rfl | exact Or.inr rfl) ⟨congrArg (fun z => some (Value.int (iI z))) (by first | exact (if_pos (by omega)).symm | exact (if_neg (by omega)).symm), rfl⟩
    · refine s_ci ok rfl ?_
      refine s_goto ok rfl ?_
      refine s_retZ ok rfl (by first | exact Or.inl rfl | exact Or.inr rfl) ⟨congrArg (fun z => some (Value.int (iI z))) (by first | exact (if_pos (by omega)).symm | exact (if_neg (by omega)).symm), rfl⟩
/-- the two rows of bounds -/
def cS (k : Nat → Nat × Nat) (h : Nat → Int → Int) : Prop := (k 1 = (21, 4) ∧ k 2 = (21, 4)) ∧ (h 1 0 = 0 ∧ h 1 1 = 1 ∧ h 1 2 = 0 ∧ h 1 3 = 0) ∧ (h 2 0 = 30 ∧ h 2 1 = 30 ∧ h 2 2 = 9 ∧ h 2 3 = 9)
theorem ct_pisRule {E : zE} {d : Nat} {k : Nat → Nat × Nat} {h : Nat → Int → Int} {r : Nat → Int → Option Nat} {l : Nat → Nat → Int64} {n : Nat} (hS : cS k h) {t b : Int} (zt : zb t) (z2 : zb b) : zCT E d M_X3_isRule [.int (iI (t)), .int (iI (b))] (zJ (k, h, r, l, n)) 0 0 (zV (.int (iI (if sRu t b then 1 else 0))) (zJ (k, h, r, l, n))) := by
  have ok := ok_X3_isRule
  refine zCT_of pn_X3_isRule (Nat.le_of_ble_eq_true rfl) ?_
  show zGo _ _ _ _ _ _ 0 ([some (.int (iI (t))), some (.int (iI (b)))], [], _, _, _)
  obtain ⟨⟨k1, k2⟩, ⟨l0, l1, l2, l3⟩, m0, m1, m2, m3⟩ := hS
  refine s_ldI0 ok rfl ?_
  refine s_if_lt ok rfl zt (fun c1 => ?_) (fun c1 => ?_)
  · refine s_ci ok rfl ?_
    refine s_retZ ok rfl (by first | exact Or.inl rfl | exact Or.inr rfl) ⟨congrArg (fun z => some (Value.int (iI z))) (by first | exact (if_pos (by rcases t4 with e | e | e | e <;> (subst e; unfold sRu; omega))).symm | exact (if_neg (by unfold sRu; omega)).symm | exact (if_neg (by rcases t4 with e | e | e | e <;> (subst e; unfold sRu; omega))).symm), rfl⟩
  · refine s_ldI0 ok rfl ?_
    refine s_ci ok rfl ?_
    refine s_c_gt ok rfl zt ⟨by omega, by omega⟩ (fun c6 => ?_) (fun c6 => ?_)
    · refine s_ci ok rfl ?_
      refine s_retZ ok rfl (by first | exact Or.inl rfl | exact Or.inr rfl) ⟨congrArg (fun z => some (Value.int (iI z))) (by first | exact (if_pos (by rcases t4 with e | e | e | e <;> (subst e; unfold sRu; omega))).symm | exact (if_neg (by unfold sRu; omega)).symm | exact (if_neg (by rcases t4 with e | e | e | e <;> (subst e; unfold sRu; omega))).symm), rfl⟩
    · have t4 : t = 0 ∨ t = 1 ∨ t = 2 ∨ t = 3 := by omega
      refine s_ldI1 ok rfl ?_
      refine s_gets ok rfl ?_
      refine s_ldI0 ok rfl ?_
      refine s_iald ok rfl (by exact k1) (by exact rfl) (by omega) (by omega) ?_
      refine s_c_lt ok rfl z2 (by rcases t4 with e | e | e | e <;> (rw [e]; exact ⟨by omega, by omega⟩)) (fun c15 => ?_) (fun c15 => ?_)
      · refine s_ci ok rfl ?_
        refine s_retZ ok rfl (by first | exact Or.inl rfl | exact Or.inr rfl) ⟨congrArg (fun z => some (Value.int (iI z))) (by first | exact (if_pos (by rcases t4 with e | e | e | e <;> (subst e; unfold sRu; omega))).symm | exact (if_neg (by unfold sRu; omega)).symm | exact (if_neg (by rcases t4 with e | e | e | e <;> (subst e; unfold sRu; omega))).symm), rfl⟩
      · refine s_ldI1 ok rfl ?_
        refine s_gets ok rfl ?_
        refine s_ldI0 ok rfl ?_
        refine s_iald ok rfl (by exact k2) (by exact rfl) (by omega) (by omega) ?_
        refine s_c_gt ok rfl z2 (by rcases t4 with e | e | e | e <;> (rw [e]; exact ⟨by omega, by omega⟩)) (fun c24 => ?_) (fun c24 => ?_)
        · refine s_ci ok rfl ?_
          refine s_retZ ok rfl (by first | exact Or.inl rfl | exact Or.inr rfl) ⟨congrArg (fun z => some (Value.int (iI z))) (by first | exact (if_pos (by rcases t4 with e | e | e | e <;> (subst e; unfold sRu; omega))).symm | exact (if_neg (by unfold sRu; omega)).symm | exact (if_neg (by rcases t4 with e | e | e | e <;> (subst e; unfold sRu; omega))).symm), rfl⟩
        · refine s_ci ok rfl ?_
          refine s_goto ok rfl ?_
          refine s_retZ ok rfl (by first | exact Or.inl rfl | exact Or.inr rfl) ⟨congrArg (fun z => some (Value.int (iI z))) (by first | exact (if_pos (by rcases t4 with e | e | e | e <;> (subst e; unfold sRu; omega))).symm | exact (if_neg (by unfold sRu; omega)).symm | exact (if_neg (by rcases t4 with e | e | e | e <;> (subst e; unfold sRu; omega))).symm), rfl⟩
theorem ct_pnumberOf {E : zE} {d : Nat} {k : Nat → Nat × Nat} {h : Nat → Int → Int} {r : Nat → Int → Option Nat} {l : Nat → Nat → Int64} {n : Nat} {a b : Int} : zCT E d M_X3_numberOf [.int (iI (a)), .int (iI (b))] (zJ (k, h, r, l, n)) 0 0 (zV (.int (iI (3 * a + b))) (zJ (k, h, r, l, n))) := by
  have ok := ok_X3_numberOf
  refine zCT_of pn_X3_numberOf (Nat.le_of_ble_eq_true rfl) ?_
  show zGo _ _ _ _ _ _ 0 ([some (.int (iI (a))), some (.int (iI (b)))], [], _, _, _)
  refine s_ci ok rfl ?_
  refine s_ldI0 ok rfl ?_
  refine s_mul ok rfl ?_
  refine s_ldI1 ok rfl ?_
  refine s_add ok rfl ?_
  refine s_retI ok rfl ⟨congrArg (fun z => some (Value.int (iI z))) (by first | rfl | omega | (simp only []; omega)), rfl⟩
theorem ct_isPerson4 {E : zE} {d : Nat} {k : Nat → Nat × Nat} {h : Nat → Int → Int} {r : Nat → Int → Option Nat} {l : Nat → Nat → Int64} {n : Nat} {np : Int} (e0 : h 4 0 = np) (n0 : 0 ≤ np) (n1 : np ≤ 8) {t : Int} (zt : zb t) : zCT E d M_X3_isPerson [.ref 4, .int (iI (t))] (zJ (k, h, r, l, n)) 0 0 (zV (.int (iI (if 0 ≤ t ∧ t < np then 1 else 0))) (zJ (k, h, r, l, n))) := by
  have ok := ok_X3_isPerson
  refine zCT_of pn_X3_isPerson (Nat.le_of_ble_eq_true rfl) ?_
  show zGo _ _ _ _ _ _ 0 ([some (.ref 4), some (.int (iI (t)))], [], _, _, _)
  refine s_ldI1 ok rfl ?_
  refine s_if_lt ok rfl zt (fun c1 => ?_) (fun c1 => ?_)
  · refine s_ci ok rfl ?_
    refine s_retZ ok rfl (by first | exact Or.inl rfl | exact Or.inr rfl) ⟨congrArg (fun z => some (Value.int (iI z))) (by first | exact (if_pos (by omega)).symm | exact (if_neg (by omega)).symm), rfl⟩
  · refine s_ldI1 ok rfl ?_
    refine s_ldA0 ok rfl ?_
    refine s_getJ 0 ok rfl rfl rfl rfl ?_
    rw [e0]
    refine s_c_ge ok rfl zt ⟨by omega, by omega⟩ (fun c9 => ?_) (fun c9 => ?_)
    · refine s_ci ok rfl ?_
      refine s_retZ ok rfl (by first | exact Or.inl rfl | exact Or.inr rfl) ⟨congrArg (fun z => some (Value.int (iI z))) (by first | exact (if_pos (by omega)).symm | exact (if_neg (by omega)).symm), rfl⟩
    · refine s_ci ok rfl ?_
      refine s_goto ok rfl ?_
      refine s_retZ ok rfl (by first | exact Or.inl rfl | exact Or.inr rfl) ⟨congrArg (fun z => some (Value.int (iI z))) (by first | exact (if_pos (by omega)).symm | exact (if_neg (by omega)).symm), rfl⟩
theorem ct_pisTrain4 {E : zE} {d : Nat} {k : Nat → Nat × Nat} {h : Nat → Int → Int} {r : Nat → Int → Option Nat} {l : Nat → Nat → Int64} {n : Nat} {np : Int} (e0 : h 4 5 = np) (n0 : 0 ≤ np) (n1 : np ≤ 4) {t : Int} (zt : zb t) : zCT E d M_X3_isTrain [.ref 4, .int (iI (t))] (zJ (k, h, r, l, n)) 0 0 (zV (.int (iI (if 0 ≤ t ∧ t < np then 1 else 0))) (zJ (k, h, r, l, n))) := by
  have ok := ok_X3_isTrain
  refine zCT_of pn_X3_isTrain (Nat.le_of_ble_eq_true rfl) ?_
  show zGo _ _ _ _ _ _ 0 ([some (.ref 4), some (.int (iI (t)))], [], _, _, _)
  refine s_ldI1 ok rfl ?_
  refine s_if_lt ok rfl zt (fun c1 => ?_) (fun c1 => ?_)
  · refine s_ci ok rfl ?_
    refine s_retZ ok rfl (by first | exact Or.inl rfl | exact Or.inr rfl) ⟨congrArg (fun z => some (Value.int (iI z))) (by first | exact (if_pos (by omega)).symm | exact (if_neg (by omega)).symm), rfl⟩
  · refine s_ldI1 ok rfl ?_
    refine s_ldA0 ok rfl ?_
    refine s_getJ 5 ok rfl rfl rfl rfl ?_
    rw [e0]
    refine s_c_ge ok rfl zt ⟨by omega, by omega⟩ (fun c9 => ?_) (fun c9 => ?_)
    · refine s_ci ok rfl ?_
      refine s_retZ ok rfl (by first | exact Or.inl rfl | exact Or.inr rfl) ⟨congrArg (fun z => some (Value.int (iI z))) (by first | exact (if_pos (by omega)).symm | exact (if_neg (by omega)).symm), rfl⟩
    · refine s_ci ok rfl ?_
      refine s_goto ok rfl ?_
      refine s_retZ ok rfl (by first | exact Or.inl rfl | exact Or.inr rfl) ⟨congrArg (fun z => some (Value.int (iI z))) (by first | exact (if_pos (by omega)).symm | exact (if_neg (by omega)).symm), rfl⟩
theorem ct_ride4 {E : zE} {d : Nat} {k : Nat → Nat × Nat} {h : Nat → Int → Int} {r : Nat → Int → Option Nat} {l : Nat → Nat → Int64} {n : Nat} {a b : Int} (a0 : 0 ≤ a) (a1 : a < 4) (b0 : 0 ≤ b) (b1 : b ≤ 2) (r0 : 0 ≤ h 12 a) (r1 : h 12 a ≤ 90) (s0 : 0 ≤ h 13 2) (s1 : h 13 2 ≤ 9) : zCT E d M_X3_ride [.ref 4, .int (iI (a)), .int (iI (b))] (zJ (k, h, r, l, n)) 0 0 (zV (.int (iI (h 12 a + h 12 a * b * h 13 2 / 10))) (zJ (k, h, r, l, n))) := by
  have ok := ok_X3_ride
  refine zCT_of pn_X3_ride (Nat.le_of_ble_eq_true rfl) ?_
  show zGo _ _ _ _ _ _ 0 ([some (.ref 4), some (.int (iI (a))), some (.int (iI (b)))], [], _, _, _)
  refine s_ldA0 ok rfl ?_
  refine s_getF ok rfl rfl rfl rfl ?_
  refine s_ldI1 ok rfl ?_
  refine s_iald ok rfl (by exact rfl) (by exact rfl) (by omega) (by omega) ?_
  refine s_ldA0 ok rfl ?_
  refine s_getF ok rfl rfl rfl rfl ?_
  refine s_ldI1 ok rfl ?_
  refine s_iald ok rfl (by exact rfl) (by exact rfl) (by omega) (by omega) ?_
  refine s_ldI2 ok rfl ?_
  refine s_mul ok rfl ?_
  refine s_ldA0 ok rfl ?_
  refine s_getF ok rfl rfl rfl rfl ?_
  refine s_ci ok rfl ?_
  refine s_iald ok rfl (by exact rfl) (by exact rfl) (by omega) (by omega) ?_
  refine s_mul ok rfl ?_
  refine s_ci ok rfl ?_
  obtain ⟨D0, D1⟩ := zmul3 (a := h 12 a) (b := b) (c := h 13 2) r0 r1 b0 b1 s0 s1
  refine s_div ok rfl (by first | exact hb _ _ | exact ⟨by omega, by omega⟩) (by first | exact hb _ _ | exact ⟨by omega, by omega⟩) (by omega) (by omega) ?_
  refine s_add ok rfl ?_
  refine s_retI ok rfl ⟨congrArg (fun z => some (Value.int (iI z))) (by first | rfl | omega | (simp only []; omega)), rfl⟩
theorem ct_isPerson15 {E : zE} {d : Nat} {k : Nat → Nat × Nat} {h : Nat → Int → Int} {r : Nat → Int → Option Nat} {l : Nat → Nat → Int64} {n : Nat} {np : Int} (e0 : h 15 0 = np) (n0 : 0 ≤ np) (n1 : np ≤ 8) {t : Int} (zt : zb t) : zCT E d M_X3_isPerson [.ref 15, .int (iI (t))] (zJ (k, h, r, l, n)) 0 0 (zV (.int (iI (if 0 ≤ t ∧ t < np then 1 else 0))) (zJ (k, h, r, l, n))) := by
  have ok := ok_X3_isPerson
  refine zCT_of pn_X3_isPerson (Nat.le_of_ble_eq_true rfl) ?_
  show zGo _ _ _ _ _ _ 0 ([some (.ref 15), some (.int (iI (t)))], [], _, _, _)
  refine s_ldI1 ok rfl ?_
  refine s_if_lt ok rfl zt (fun c1 => ?_) (fun c1 => ?_)
  · refine s_ci ok rfl ?_
    refine s_retZ ok rfl (by first | exact Or.inl rfl | exact Or.inr rfl) ⟨congrArg (fun z => some (Value.int (iI z))) (by first | exact (if_pos (by omega)).symm | exact (if_neg (by omega)).symm), rfl⟩
  · refine s_ldI1 ok rfl ?_
    refine s_ldA0 ok rfl ?_
    refine s_getJ 0 ok rfl rfl rfl rfl ?_
    rw [e0]
    refine s_c_ge ok rfl zt ⟨by omega, by omega⟩ (fun c9 => ?_) (fun c9 => ?_)
    · refine s_ci ok rfl ?_
      refine s_retZ ok rfl (by first | exact Or.inl rfl | exact Or.inr rfl) ⟨congrArg (fun z => some (Value.int (iI z))) (by first | exact (if_pos (by omega)).symm | exact (if_neg (by omega)).symm), rfl⟩
    · refine s_ci ok rfl ?_
      refine s_goto ok rfl ?_
      refine s_retZ ok rfl (by first | exact Or.inl rfl | exact Or.inr rfl) ⟨congrArg (fun z => some (Value.int (iI z))) (by first | exact (if_pos (by omega)).symm | exact (if_neg (by omega)).symm), rfl⟩
theorem ct_pisTrain15 {E : zE} {d : Nat} {k : Nat → Nat × Nat} {h : Nat → Int → Int} {r : Nat → Int → Option Nat} {l : Nat → Nat → Int64} {n : Nat} {np : Int} (e0 : h 15 5 = np) (n0 : 0 ≤ np) (n1 : np ≤ 4) {t : Int} (zt : zb t) : zCT E d M_X3_isTrain [.ref 15, .int (iI (t))] (zJ (k, h, r, l, n)) 0 0 (zV (.int (iI (if 0 ≤ t ∧ t < np then 1 else 0))) (zJ (k, h, r, l, n))) := by
  have ok := ok_X3_isTrain
  refine zCT_of pn_X3_isTrain (Nat.le_of_ble_eq_true rfl) ?_
  show zGo _ _ _ _ _ _ 0 ([some (.ref 15), some (.int (iI (t)))], [], _, _, _)
  refine s_ldI1 ok rfl ?_
  refine s_if_lt ok rfl zt (fun c1 => ?_) (fun c1 => ?_)
  · refine s_ci ok rfl ?_
    refine s_retZ ok rfl (by first | exact Or.inl rfl | exact Or.inr rfl) ⟨congrArg (fun z => some (Value.int (iI z))) (by first | exact (if_pos (by omega)).symm | exact (if_neg (by omega)).symm), rfl⟩
  · refine s_ldI1 ok rfl ?_
    refine s_ldA0 ok rfl ?_
    refine s_getJ 5 ok rfl rfl rfl rfl ?_
    rw [e0]
    refine s_c_ge ok rfl zt ⟨by omega, by omega⟩ (fun c9 => ?_) (fun c9 => ?_)
    · refine s_ci ok rfl ?_
      refine s_retZ ok rfl (by first | exact Or.inl rfl | exact Or.inr rfl) ⟨congrArg (fun z => some (Value.int (iI z))) (by first | exact (if_pos (by omega)).symm | exact (if_neg (by omega)).symm), rfl⟩
    · refine s_ci ok rfl ?_
      refine s_goto ok rfl ?_
      refine s_retZ ok rfl (by first | exact Or.inl rfl | exact Or.inr rfl) ⟨congrArg (fun z => some (Value.int (iI z))) (by first | exact (if_pos (by omega)).symm | exact (if_neg (by omega)).symm), rfl⟩
theorem ct_ride15 {E : zE} {d : Nat} {k : Nat → Nat × Nat} {h : Nat → Int → Int} {r : Nat → Int → Option Nat} {l : Nat → Nat → Int64} {n : Nat} {a b : Int} (a0 : 0 ≤ a) (a1 : a < 4) (b0 : 0 ≤ b) (b1 : b ≤ 2) (r0 : 0 ≤ h 23 a) (r1 : h 23 a ≤ 90) (s0 : 0 ≤ h 24 2) (s1 : h 24 2 ≤ 9) : zCT E d M_X3_ride [.ref 15, .int (iI (a)), .int (iI (b))] (zJ (k, h, r, l, n)) 0 0 (zV (.int (iI (h 23 a + h 23 a * b * h 24 2 / 10))) (zJ (k, h, r, l, n))) := by
  have ok := ok_X3_ride
  refine zCT_of pn_X3_ride (Nat.le_of_ble_eq_true rfl) ?_
  show zGo _ _ _ _ _ _ 0 ([some (.ref 15), some (.int (iI (a))), some (.int (iI (b)))], [], _, _, _)
  refine s_ldA0 ok rfl ?_
  refine s_getF ok rfl rfl rfl rfl ?_
  refine s_ldI1 ok rfl ?_
  refine s_iald ok rfl (by exact rfl) (by exact rfl) (by omega) (by omega) ?_
  refine s_ldA0 ok rfl ?_
  refine s_getF ok rfl rfl rfl rfl ?_
  refine s_ldI1 ok rfl ?_
  refine s_iald ok rfl (by exact rfl) (by exact rfl) (by omega) (by omega) ?_
  refine s_ldI2 ok rfl ?_
  refine s_mul ok rfl ?_
  refine s_ldA0 ok rfl ?_
  refine s_getF ok rfl rfl rfl rfl ?_
  refine s_ci ok rfl ?_
  refine s_iald ok rfl (by exact rfl) (by exact rfl) (by omega) (by omega) ?_
  refine s_mul ok rfl ?_
  refine s_ci ok rfl ?_
  obtain ⟨D0, D1⟩ := zmul3 (a := h 23 a) (b := b) (c := h 24 2) r0 r1 b0 b1 s0 s1
  refine s_div ok rfl (by first | exact hb _ _ | exact ⟨by omega, by omega⟩) (by first | exact hb _ _ | exact ⟨by omega, by omega⟩) (by omega) (by omega) ?_
  refine s_add ok rfl ?_
  refine s_retI ok rfl ⟨congrArg (fun z => some (Value.int (iI z))) (by first | rfl | omega | (simp only []; omega)), rfl⟩
/-- a run of one array laid into another -/
def zcp (h : Nat → Int → Int) (x y : Nat) (a b m : Int) : Nat → Int → Int := fun q j => if q = y ∧ b ≤ j ∧ j < b + m then h x (j - b + a) else h q j
section ZY
variable {E : zE} {d mc ms : Nat} {M : zM} {P : Nat → zOp} {Q : zQ} {pc nx bc bs : Nat} {ls : List (Option Value)} {st : List Value} {k : Nat → Nat × Nat} {h : Nat → Int → Int} {r : Nat → Int → Option Nat} {l : Nat → Nat → Int64} {n : Nat}
theorem s_copyJ (ok : zOK M P) {e9 x y L1 L2 : Nat} {a b m : Int} (hd : d = e9 + 1) (hP : P pc = oCopy nx) (hx : zkF k x = (16, L1)) (hy : zkF k y = (16, L2)) (l1 : L1 ≤ 100000) (l2 : L2 ≤ 100000) (a0 : 0 ≤ a) (b0 : 0 ≤ b) (m0 : 0 ≤ m) (am : a + m ≤ L1) (bm : b + m ≤ L2) (hc : zcat st ≤ 8) (hk : zGo E d M mc ms Q nx (ls, st, zJ (k, zcp h x y a b m, r, l, n), bc, bs)) : zGo E d M mc ms Q pc (ls, .int (iI m) :: .int (iI b) :: .ref y :: .int (iI a) :: .ref x :: st, zJ (k, h, r, l, n), bc, bs) := by
  subst hd
  refine zstep ok hP ?_
  refine ⟨L1, L2, a.toNat, b.toNat, m.toNat, hx, hy, ?_, ?_, ?_, l1, l2, by omega, by omega, hc, ?_⟩
  · rw [iI_nat]; congr 1; omega
  · rw [iI_nat]; congr 1; omega
  · rw [iI_nat]; congr 1; omega
  · have e : zI (zJ (k, h, r, l, n)) (fun m' j => if m' = y then va_cpy (zi (zJ (k, h, r, l, n)) x) (zi (zJ (k, h, r, l, n)) y) a.toNat b.toNat m.toNat j else zi (zJ (k, h, r, l, n)) m' j) = zJ (k, zcp h x y a b m, r, l, n) := by
      show (zkF k, _, zrF r, l, n) = (zkF k, _, zrF r, l, n)
      congr 1
      congr 1
      funext q j
      show (if q = y then va_cpy (fun j : Nat => iI (h x j)) (fun j : Nat => iI (h y j)) a.toNat b.toNat m.toNat j else iI (h q j)) = iI (zcp h x y a b m q j)
      unfold zcp va_cpy
      by_cases e : q = y
      · rw [if_pos e]
        by_cases c : b.toNat ≤ j ∧ j < b.toNat + m.toNat
        · rw [if_pos c, if_pos (by omega)]
          show iI (h x ((a.toNat + (j - b.toNat) : Nat) : Int)) = iI (h x ((j : Int) - b + a))
          rw [show ((a.toNat + (j - b.toNat) : Nat) : Int) = (j : Int) - b + a by omega]
        · rw [if_neg c, if_neg (by omega), e]
      · rw [if_neg e, if_neg (fun z => e z.1)]
    refine zgo_eq ?_ hk
    exact congrArg (fun z => (ls, st, z, bc, bs)) e
end ZY
theorem lp_bec1_15_4 {E : zE} {d : Nat} {k : Nat → Nat × Nat} {h : Nat → Int → Int} {r : Nat → Int → Option Nat} {l : Nat → Nat → Int64} {n : Nat} {Q : zQ} (hw : ∀ t : Int, 0 ≤ t → t < 8 → ∃ v c, r 5 t = some v ∧ zkF k v = (c, 2) ∧ zmem c [0, 1, 2, 5, 6, 7, 8, 10] = true ∧ v < n) (hX : ∀ g r9, (∀ q j, ¬ (q = 15 ∧ j = 0) → ¬ q = 17 → ¬ q = 18 → ¬ q = 19 → g q j = h q j) ∧ g 15 0 = h 4 0 ∧ (∀ q, ¬ q = 16 → r9 q = r q) ∧ (∀ t : Int, 0 ≤ t → t < 8 → r9 16 t = r 5 t ∧ g 17 t = h 6 t ∧ g 18 t = h 7 t ∧ g 19 t = h 8 t) → ∀ u, zGo E (d + 1) M_X3_become 0 0 Q 70 ([some (.ref 15), some (.ref 4), some (.int u)], [], zJ (k, g, r9, l, n), 0, 0)) : ∀ c : Nat, ∀ (m : Nat) (g : Nat → Int → Int) (r9 : Nat → Int → Option Nat), (∀ q j, ¬ (q = 15 ∧ j = 0) → ¬ q = 17 → ¬ q = 18 → ¬ q = 19 → g q j = h q j) ∧ g 15 0 = h 4 0 ∧ (∀ q, ¬ q = 16 → r9 q = r q) ∧ (∀ t : Int, 0 ≤ t → t < (m : Int) → r9 16 t = r 5 t ∧ g 17 t = h 6 t ∧ g 18 t = h 7 t ∧ g 19 t = h 8 t) → 8 < m + c → m ≤ 8 → zGo E (d + 1) M_X3_become 0 0 Q 10 ([some (.ref 15), some (.ref 4), some (.int (iI ((m : Int))))], [], zJ (k, g, r9, l, n), 0, 0) := by
  have ok := ok_X3_become
  intro c
  induction c with
  | zero =>
    intros
    omega
  | succ c ih =>
    intro m g r9 ⟨f, f0, fr, ft⟩ g1 g2
    refine s_ldI2 ok rfl ?_
    refine s_ci ok rfl ?_
    refine s_c_ge ok rfl ⟨by omega, by omega⟩ ⟨by omega, by omega⟩ (fun c13 => ?_) (fun c13 => ?_)
    · have em : m = 8 := by omega
      subst em
      exact hX g r9 ⟨f, f0, fr, ft⟩ _
    · obtain ⟨v9, cv, hv1, hv2, hv3, -⟩ := hw m (by omega) (by omega)
      have hv : r9 5 (m : Int) = some v9 := by rw [fr 5 (by omega)]; exact hv1
      refine s_ldA0 ok rfl ?_
      refine s_getF ok rfl rfl rfl rfl ?_
      refine s_ldI2 ok rfl ?_
      refine s_ldA1 ok rfl ?_
      refine s_getF ok rfl rfl rfl rfl ?_
      refine s_ldI2 ok rfl ?_
      refine s_aald ok rfl (by exact rfl) (by exact rfl) (by exact rfl) (by omega) (by omega) hv ?_
      refine s_aast ok rfl (by exact rfl) (by exact rfl) (by exact rfl) (by omega) (by omega) hv2 hv3 ?_
      refine s_ldA0 ok rfl ?_
      refine s_getF ok rfl rfl rfl rfl ?_
      refine s_ldI2 ok rfl ?_
      refine s_ldA1 ok rfl ?_
      refine s_getF ok rfl rfl rfl rfl ?_
      refine s_ldI2 ok rfl ?_
      refine s_iald ok rfl (by exact rfl) (by exact rfl) (by omega) (by omega) ?_
      rw [f 6 m (by omega) (by omega) (by omega) (by omega)]
      refine s_iast ok rfl (by exact rfl) (by exact rfl) (by omega) (by omega) (fun q => by cases q) ?_
      refine s_ldA0 ok rfl ?_
      refine s_getF ok rfl rfl rfl rfl ?_
      refine s_ldI2 ok rfl ?_
      refine s_ldA1 ok rfl ?_
      refine s_getF ok rfl rfl rfl rfl ?_
      refine s_ldI2 ok rfl ?_
      refine s_iald ok rfl (by exact rfl) (by exact rfl) (by omega) (by omega) ?_
      rw [show (zv g 17 m (h 6 m)) 7 (m : Int) = h 7 m from (congrFun (zv_other (by omega)) _).trans (f 7 m (by omega) (by omega) (by omega) (by omega))]
      refine s_iast ok rfl (by exact rfl) (by exact rfl) (by omega) (by omega) (fun q => by cases q) ?_
      refine s_ldA0 ok rfl ?_
      refine s_getF ok rfl rfl rfl rfl ?_
      refine s_ldI2 ok rfl ?_
      refine s_ldA1 ok rfl ?_
      refine s_getF ok rfl rfl rfl rfl ?_
      refine s_ldI2 ok rfl ?_
      refine s_iald ok rfl (by exact rfl) (by exact rfl) (by omega) (by omega) ?_
      rw [show (zv (zv g 17 m (h 6 m)) 18 m (h 7 m)) 8 (m : Int) = h 8 m from (congrFun (zv_other (by omega)) _).trans ((congrFun (zv_other (by omega)) _).trans (f 8 m (by omega) (by omega) (by omega) (by omega)))]
      refine s_iast ok rfl (by exact rfl) (by exact rfl) (by omega) (by omega) (fun q => by cases q) ?_
      refine s_inc2 ok rfl rfl ?_
      refine s_goto ok rfl ?_
      refine ih (m + 1) _ _ ⟨fun q j h1 h2 h3 h4 => ?_, ?_, fun q hq => ?_, fun t t0 t1 => ?_⟩ (by omega) (by omega)
      · rw [zv_other h4, zv_other h3, zv_other h2]
        exact f q j h1 h2 h3 h4
      · rw [zv_other (by omega), zv_other (by omega), zv_other (by omega)]
        exact f0
      · rw [zv_other hq]
        exact fr q hq
      · by_cases e : t = m
        · subst e
          exact ⟨zv_is.trans hv1.symm, (congrFun (zv_other (by omega)) _).trans ((congrFun (zv_other (by omega)) _).trans zv_is), (congrFun (zv_other (by omega)) _).trans zv_is, zv_is⟩
        · obtain ⟨q1, q2, q3, q4⟩ := ft t t0 (by omega)
          exact ⟨(zv_at e).trans q1, (congrFun (zv_other (by omega)) _).trans ((congrFun (zv_other (by omega)) _).trans ((zv_at e).trans q2)), (congrFun (zv_other (by omega)) _).trans ((zv_at e).trans q3), (zv_at e).trans q4⟩
theorem lp_bec2_15_4 {E : zE} {d : Nat} {k : Nat → Nat × Nat} {h : Nat → Int → Int} {r : Nat → Int → Option Nat} {l : Nat → Nat → Int64} {n : Nat} {Q : zQ} (hb : ∀ j : Int, 0 ≤ j → j < 4 → (h 11 j = 0 ∨ h 11 j = 1)) (hX : ∀ g, (∀ q, ¬ q = 20 → ¬ q = 21 → ¬ q = 22 → g q = h q) ∧ (∀ t : Int, 0 ≤ t → t < 4 → g 20 t = h 9 t ∧ g 21 t = h 10 t ∧ g 22 t = h 11 t) → ∀ u, zGo E (d + 1) M_X3_become 0 0 Q 127 ([some (.ref 15), some (.ref 4), some (.int u)], [], zJ (k, g, r, l, n), 0, 0)) : ∀ c : Nat, ∀ (m : Nat) (g : Nat → Int → Int), (∀ q, ¬ q = 20 → ¬ q = 21 → ¬ q = 22 → g q = h q) ∧ (∀ t : Int, 0 ≤ t → t < (m : Int) → g 20 t = h 9 t ∧ g 21 t = h 10 t ∧ g 22 t = h 11 t) → 4 < m + c → m ≤ 4 → zGo E (d + 1) M_X3_become 0 0 Q 80 ([some (.ref 15), some (.ref 4), some (.int (iI ((m : Int))))], [], zJ (k, g, r, l, n), 0, 0) := by
  have ok := ok_X3_become
  intro c
  induction c with
  | zero =>
    intros
    omega
  | succ c ih =>
    intro m g ⟨f, ft⟩ g1 g2
    refine s_ldI2 ok rfl ?_
    refine s_ci ok rfl ?_
    refine s_c_ge ok rfl ⟨by omega, by omega⟩ ⟨by omega, by omega⟩ (fun c82 => ?_) (fun c82 => ?_)
    · have em : m = 4 := by omega
      subst em
      exact hX g ⟨f, ft⟩ _
    · refine s_ldA0 ok rfl ?_
      refine s_getF ok rfl rfl rfl rfl ?_
      refine s_ldI2 ok rfl ?_
      refine s_ldA1 ok rfl ?_
      refine s_getF ok rfl rfl rfl rfl ?_
      refine s_ldI2 ok rfl ?_
      refine s_iald ok rfl (by exact rfl) (by exact rfl) (by omega) (by omega) ?_
      rw [congrFun (f 9 (by omega) (by omega) (by omega)) m]
      refine s_iast ok rfl (by exact rfl) (by exact rfl) (by omega) (by omega) (fun q => by cases q) ?_
      refine s_ldA0 ok rfl ?_
      refine s_getF ok rfl rfl rfl rfl ?_
      refine s_ldI2 ok rfl ?_
      refine s_ldA1 ok rfl ?_
      refine s_getF ok rfl rfl rfl rfl ?_
      refine s_ldI2 ok rfl ?_
      refine s_iald ok rfl (by exact rfl) (by exact rfl) (by omega) (by omega) ?_
      rw [show (zv g 20 m (h 9 m)) 10 (m : Int) = h 10 m from (congrFun (zv_other (by omega)) _).trans (congrFun (f 10 (by omega) (by omega) (by omega)) m)]
      refine s_iast ok rfl (by exact rfl) (by exact rfl) (by omega) (by omega) (fun q => by cases q) ?_
      refine s_ldA0 ok rfl ?_
      refine s_getF ok rfl rfl rfl rfl ?_
      refine s_ldI2 ok rfl ?_
      refine s_ldA1 ok rfl ?_
      refine s_getF ok rfl rfl rfl rfl ?_
      refine s_ldI2 ok rfl ?_
      refine s_iald ok rfl (by exact rfl) (by exact rfl) (by omega) (by omega) ?_
      rw [show (zv (zv g 20 m (h 9 m)) 21 m (h 10 m)) 11 (m : Int) = h 11 m from (congrFun (zv_other (by omega)) _).trans ((congrFun (zv_other (by omega)) _).trans (congrFun (f 11 (by omega) (by omega) (by omega)) m))]
      refine s_iast ok rfl (by exact rfl) (by exact rfl) (by omega) (by omega) (fun _ => by rcases hb m (by omega) (by omega) with e | e <;> rw [e] <;> first | exact Or.inl rfl | exact Or.inr rfl) ?_
      refine s_inc2 ok rfl rfl ?_
      refine s_goto ok rfl ?_
      refine ih (m + 1) _ ⟨fun q h1 h2 h3 => ?_, fun t t0 t1 => ?_⟩ (by omega) (by omega)
      · rw [zv_other h3, zv_other h2, zv_other h1]
        exact f q h1 h2 h3
      · by_cases e : t = m
        · subst e
          exact ⟨(congrFun (zv_other (by omega)) _).trans ((congrFun (zv_other (by omega)) _).trans zv_is), (congrFun (zv_other (by omega)) _).trans zv_is, zv_is⟩
        · obtain ⟨q1, q2, q3⟩ := ft t t0 (by omega)
          exact ⟨(congrFun (zv_other (by omega)) _).trans ((congrFun (zv_other (by omega)) _).trans ((zv_at e).trans q1)), (congrFun (zv_other (by omega)) _).trans ((zv_at e).trans q2), (zv_at e).trans q3⟩
theorem ct_become15_4 {E : zE} {d : Nat} {k : Nat → Nat × Nat} {h : Nat → Int → Int} {r : Nat → Int → Option Nat} {l : Nat → Nat → Int64} {n : Nat} {p : Int → Int} {w : Int} (hR : cR 4 5 6 7 8 9 10 11 12 13 k h r n p w) (hcn : cnP p w ≤ 8) (tr4 : p 0 ≤ 4) : zCT E (d + 1) M_X3_become [.ref 15, .ref 4] (zJ (k, h, r, l, n)) 0 0 (zUx (fun s => ∃ g r9, s = zJ (k, g, r9, l, n) ∧ (∀ q : Nat, q < 15 ∨ 24 < q → g q = h q) ∧ (∀ q, ¬ q = 16 → r9 q = r q) ∧ cR 15 16 17 18 19 20 21 22 23 24 k g r9 n p w)) := by
  have ok := ok_X3_become
  refine zCT_of pn_X3_become (Nat.le_of_ble_eq_true rfl) ?_
  show zGo _ _ _ _ _ _ 0 ([some (.ref 15), some (.ref 4), none], [], _, _, _)
  refine s_ldA0 ok rfl ?_
  refine s_ldA1 ok rfl ?_
  refine s_getJ 0 ok rfl rfl rfl rfl ?_
  refine s_putJ 0 ok rfl rfl rfl rfl (fun q => by cases q) ?_
  refine s_ci ok rfl ?_
  refine s_stI2 ok rfl rfl ?_
  refine lp_bec1_15_4 (E := E) (d := d) (k := k) (r := r) (l := l) (n := n) (h := h) hR.2.2.1 (fun g r9 ⟨f, f0, fr, ft⟩ u => ?_) 9 0 _ r ⟨fun q j h1 h2 h3 h4 => ?_, zv_is, fun q hq => rfl, fun t t0 t1 => by omega⟩ (by omega) (by omega)
  · refine s_ldA0 ok rfl ?_
    refine s_ldA1 ok rfl ?_
    refine s_getJ 5 ok rfl rfl rfl rfl ?_
    rw [show g 4 5 = h 4 5 from f 4 5 (by omega) (by omega) (by omega) (by omega)]
    refine s_putJ 5 ok rfl rfl rfl rfl (fun q => by cases q) ?_
    refine s_ci ok rfl ?_
    refine s_stI2 ok rfl rfl ?_
    refine lp_bec2_15_4 (E := E) (d := d) (k := k) (r := r9) (l := l) (n := n) (h := zv g 15 5 (h 4 5)) (fun j j0 j1 => ?_) (fun g2 ⟨e, et⟩ u2 => ?_) 5 0 _ ⟨fun q h1 h2 h3 => rfl, fun t t0 t1 => by omega⟩ (by omega) (by omega)
    · rw [zv_other (by omega), f 11 j (by omega) (by omega) (by omega) (by omega)]
      exact hR.2.2.2.2.1 j j0 j1
    · refine s_ldA1 ok rfl ?_
      refine s_getF ok rfl rfl rfl rfl ?_
      refine s_ci ok rfl ?_
      refine s_ldA0 ok rfl ?_
      refine s_getF ok rfl rfl rfl rfl ?_
      refine s_ci ok rfl ?_
      refine s_ldA0 ok rfl ?_
      refine s_getF ok rfl rfl rfl rfl ?_
      refine s_alen ok rfl rfl ?_
      rw [show ((4 : Nat) : Int) = (4 : Int) from rfl]
      refine s_copyJ ok rfl rfl (by exact rfl) (by exact rfl) (by omega) (by omega) (by omega) (by omega) (by omega) (by omega) (by omega) (by decide) ?_
      refine s_ldA1 ok rfl ?_
      refine s_getF ok rfl rfl rfl rfl ?_
      refine s_ci ok rfl ?_
      refine s_ldA0 ok rfl ?_
      refine s_getF ok rfl rfl rfl rfl ?_
      refine s_ci ok rfl ?_
      refine s_ldA0 ok rfl ?_
      refine s_getF ok rfl rfl rfl rfl ?_
      refine s_alen ok rfl rfl ?_
      rw [show ((4 : Nat) : Int) = (4 : Int) from rfl]
      refine s_copyJ ok rfl rfl (by exact rfl) (by exact rfl) (by omega) (by omega) (by omega) (by omega) (by omega) (by omega) (by omega) (by decide) ?_
      have hs : ∀ q j, ¬ q = 20 → ¬ q = 21 → ¬ q = 22 → ¬ q = 15 → ¬ q = 17 → ¬ q = 18 → ¬ q = 19 → g2 q j = h q j := fun q j h5 h6 h7 h0 h2 h3 h4 => by
        rw [e q h5 h6 h7, zv_other h0]
        exact f q j (fun z => h0 z.1) h2 h3 h4
      have hc : ∀ q j, ¬ q = 23 → ¬ q = 24 → zcp (zcp g2 12 23 0 0 4) 13 24 0 0 4 q j = g2 q j := fun q j h8 h9 => by
        unfold zcp
        rw [if_neg (fun z => h9 z.1), if_neg (fun z => h8 z.1)]
      refine s_retV ok rfl ⟨rfl, _, r9, rfl, fun q hq => funext fun j => ?_, fr, ?_⟩
      · rw [hc q j (by omega) (by omega)]
        exact hs q j (by omega) (by omega) (by omega) (by omega) (by omega) (by omega) (by omega)
      · obtain ⟨⟨c0, c5⟩, c1, c2, c3, c4, c6⟩ := hR
        have fw : fW k h (zcp (zcp g2 12 23 0 0 4) 13 24 0 0 4) := fW_fix fun q hq => funext fun j => by
          rw [hc q j (by omega) (by omega)]
          exact hs q j (by omega) (by omega) (by omega) (by omega) (by omega) (by omega) (by omega)
        have g0 : g2 15 0 = h 4 0 := by rw [e 15 (by omega) (by omega) (by omega), zv_at (by omega)]; exact f0
        have g5 : g2 15 5 = h 4 5 := by rw [e 15 (by omega) (by omega) (by omega), zv_is]
        have cn : cnP p w ≤ 8 := hcn
        refine ⟨⟨?_, ?_⟩, fun t t0 t1 => ?_, fun t t0 t1 => ?_, fun x x0 x1 => ?_, fun j j0 j1 => ?_, fun j j0 j1 => ?_⟩
        · rw [hc _ _ (by omega) (by omega), g0]; exact c0
        · rw [hc _ _ (by omega) (by omega), g5]; exact c5
        · obtain ⟨v, v1, v2, v3, v4, v5⟩ := c1 t t0 t1
          obtain ⟨q1, q2, q3, q4⟩ := ft t t0 (by omega)
          refine ⟨v, q1.trans v1, wk_fr v2 fw, ?_, ?_, ?_⟩
          · rw [hc _ _ (by omega) (by omega), e 17 (by omega) (by omega) (by omega), zv_other (by omega)]; exact q2.trans v3
          · rw [hc _ _ (by omega) (by omega), e 18 (by omega) (by omega) (by omega), zv_other (by omega)]; exact q3.trans v4
          · rw [hc _ _ (by omega) (by omega), e 19 (by omega) (by omega) (by omega), zv_other (by omega)]; exact q4.trans v5
        · obtain ⟨v, c, v1, v2, v3⟩ := c2 t t0 t1
          exact ⟨v, c, (ft t t0 t1).1.trans v1, v2, v3⟩
        · obtain ⟨q1, q2, q3⟩ := et x x0 (by omega)
          obtain ⟨w1, w2, w3⟩ := c3 x x0 x1
          have hz : ∀ q j, ¬ q = 15 → ¬ q = 17 → ¬ q = 18 → ¬ q = 19 → zv g 15 5 (h 4 5) q j = h q j := fun q j h0 h2 h3 h4 => by
            rw [zv_other h0]
            exact f q j (fun z => h0 z.1) h2 h3 h4
          refine ⟨?_, ?_, ?_⟩
          · rw [hc _ _ (by omega) (by omega), q1, hz _ _ (by omega) (by omega) (by omega) (by omega)]; exact w1
          · rw [hc _ _ (by omega) (by omega), q2, hz _ _ (by omega) (by omega) (by omega) (by omega)]; exact w2
          · rw [hc _ _ (by omega) (by omega), q3, hz _ _ (by omega) (by omega) (by omega) (by omega)]; exact w3
        · obtain ⟨q1, q2, q3⟩ := et j j0 j1
          rw [hc _ _ (by omega) (by omega), q3, zv_other (by omega), f 11 j (by omega) (by omega) (by omega) (by omega)]
          exact c4 j j0 j1
        · obtain ⟨w1, w2⟩ := c6 j j0 j1
          have z9 : zcp (zcp g2 12 23 0 0 4) 13 24 0 0 4 23 j = g2 12 j := by
            unfold zcp
            rw [if_neg (by omega), if_pos (by omega)]
            congr 1
            omega
          have z8 : zcp (zcp g2 12 23 0 0 4) 13 24 0 0 4 24 j = g2 13 j := by
            unfold zcp
            rw [if_pos (by omega), if_neg (by omega)]
            congr 1
            omega
          refine ⟨?_, ?_⟩
          · rw [z9, hs 12 j (by omega) (by omega) (by omega) (by omega) (by omega) (by omega) (by omega)]; exact w1
          · rw [z8, hs 13 j (by omega) (by omega) (by omega) (by omega) (by omega) (by omega) (by omega)]; exact w2
  · rw [zv_eq, if_neg h1]
theorem lp_bec1_4_15 {E : zE} {d : Nat} {k : Nat → Nat × Nat} {h : Nat → Int → Int} {r : Nat → Int → Option Nat} {l : Nat → Nat → Int64} {n : Nat} {Q : zQ} (hw : ∀ t : Int, 0 ≤ t → t < 8 → ∃ v c, r 16 t = some v ∧ zkF k v = (c, 2) ∧ zmem c [0, 1, 2, 5, 6, 7, 8, 10] = true ∧ v < n) (hX : ∀ g r9, (∀ q j, ¬ (q = 4 ∧ j = 0) → ¬ q = 6 → ¬ q = 7 → ¬ q = 8 → g q j = h q j) ∧ g 4 0 = h 15 0 ∧ (∀ q, ¬ q = 5 → r9 q = r q) ∧ (∀ t : Int, 0 ≤ t → t < 8 → r9 5 t = r 16 t ∧ g 6 t = h 17 t ∧ g 7 t = h 18 t ∧ g 8 t = h 19 t) → ∀ u, zGo E (d + 1) M_X3_become 0 0 Q 70 ([some (.ref 4), some (.ref 15), some (.int u)], [], zJ (k, g, r9, l, n), 0, 0)) : ∀ c : Nat, ∀ (m : Nat) (g : Nat → Int → Int) (r9 : Nat → Int → Option Nat), (∀ q j, ¬ (q = 4 ∧ j = 0) → ¬ q = 6 → ¬ q = 7 → ¬ q = 8 → g q j = h q j) ∧ g 4 0 = h 15 0 ∧ (∀ q, ¬ q = 5 → r9 q = r q) ∧ (∀ t : Int, 0 ≤ t → t < (m : Int) → r9 5 t = r 16 t ∧ g 6 t = h 17 t ∧ g 7 t = h 18 t ∧ g 8 t = h 19 t) → 8 < m + c → m ≤ 8 → zGo E (d + 1) M_X3_become 0 0 Q 10 ([some (.ref 4), some (.ref 15), some (.int (iI ((m : Int))))], [], zJ (k, g, r9, l, n), 0, 0) := by
  have ok := ok_X3_become
  intro c
  induction c with
  | zero =>
    intros
    omega
  | succ c ih =>
    intro m g r9 ⟨f, f0, fr, ft⟩ g1 g2
    refine s_ldI2 ok rfl ?_
    refine s_ci ok rfl ?_
    refine s_c_ge ok rfl ⟨by omega, by omega⟩ ⟨by omega, by omega⟩ (fun c13 => ?_) (fun c13 => ?_)
    · have em : m = 8 := by omega
      subst em
      exact hX g r9 ⟨f, f0, fr, ft⟩ _
    · obtain ⟨v9, cv, hv1, hv2, hv3, -⟩ := hw m (by omega) (by omega)
      have hv : r9 16 (m : Int) = some v9 := by rw [fr 16 (by omega)]; exact hv1
      refine s_ldA0 ok rfl ?_
      refine s_getF ok rfl rfl rfl rfl ?_
      refine s_ldI2 ok rfl ?_
      refine s_ldA1 ok rfl ?_
      refine s_getF ok rfl rfl rfl rfl ?_
      refine s_ldI2 ok rfl ?_
      refine s_aald ok rfl (by exact rfl) (by exact rfl) (by exact rfl) (by omega) (by omega) hv ?_
      refine s_aast ok rfl (by exact rfl) (by exact rfl) (by exact rfl) (by omega) (by omega) hv2 hv3 ?_
      refine s_ldA0 ok rfl ?_
      refine s_getF ok rfl rfl rfl rfl ?_
      refine s_ldI2 ok rfl ?_
      refine s_ldA1 ok rfl ?_
      refine s_getF ok rfl rfl rfl rfl ?_
      refine s_ldI2 ok rfl ?_
      refine s_iald ok rfl (by exact rfl) (by exact rfl) (by omega) (by omega) ?_
      rw [f 17 m (by omega) (by omega) (by omega) (by omega)]
      refine s_iast ok rfl (by exact rfl) (by exact rfl) (by omega) (by omega) (fun q => by cases q) ?_
      refine s_ldA0 ok rfl ?_
      refine s_getF ok rfl rfl rfl rfl ?_
      refine s_ldI2 ok rfl ?_
      refine s_ldA1 ok rfl ?_
      refine s_getF ok rfl rfl rfl rfl ?_
      refine s_ldI2 ok rfl ?_
      refine s_iald ok rfl (by exact rfl) (by exact rfl) (by omega) (by omega) ?_
      rw [show (zv g 6 m (h 17 m)) 18 (m : Int) = h 18 m from (congrFun (zv_other (by omega)) _).trans (f 18 m (by omega) (by omega) (by omega) (by omega))]
      refine s_iast ok rfl (by exact rfl) (by exact rfl) (by omega) (by omega) (fun q => by cases q) ?_
      refine s_ldA0 ok rfl ?_
      refine s_getF ok rfl rfl rfl rfl ?_
      refine s_ldI2 ok rfl ?_
      refine s_ldA1 ok rfl ?_
      refine s_getF ok rfl rfl rfl rfl ?_
      refine s_ldI2 ok rfl ?_
      refine s_iald ok rfl (by exact rfl) (by exact rfl) (by omega) (by omega) ?_
      rw [show (zv (zv g 6 m (h 17 m)) 7 m (h 18 m)) 19 (m : Int) = h 19 m from (congrFun (zv_other (by omega)) _).trans ((congrFun (zv_other (by omega)) _).trans (f 19 m (by omega) (by omega) (by omega) (by omega)))]
      refine s_iast ok rfl (by exact rfl) (by exact rfl) (by omega) (by omega) (fun q => by cases q) ?_
      refine s_inc2 ok rfl rfl ?_
      refine s_goto ok rfl ?_
      refine ih (m + 1) _ _ ⟨fun q j h1 h2 h3 h4 => ?_, ?_, fun q hq => ?_, fun t t0 t1 => ?_⟩ (by omega) (by omega)
      · rw [zv_other h4, zv_other h3, zv_other h2]
        exact f q j h1 h2 h3 h4
      · rw [zv_other (by omega), zv_other (by omega), zv_other (by omega)]
        exact f0
      · rw [zv_other hq]
        exact fr q hq
      · by_cases e : t = m
        · subst e
          exact ⟨zv_is.trans hv1.symm, (congrFun (zv_other (by omega)) _).trans ((congrFun (zv_other (by omega)) _).trans zv_is), (congrFun (zv_other (by omega)) _).trans zv_is, zv_is⟩
        · obtain ⟨q1, q2, q3, q4⟩ := ft t t0 (by omega)
          exact ⟨(zv_at e).trans q1, (congrFun (zv_other (by omega)) _).trans ((congrFun (zv_other (by omega)) _).trans ((zv_at e).trans q2)), (congrFun (zv_other (by omega)) _).trans ((zv_at e).trans q3), (zv_at e).trans q4⟩
theorem lp_bec2_4_15 {E : zE} {d : Nat} {k : Nat → Nat × Nat} {h : Nat → Int → Int} {r : Nat → Int → Option Nat} {l : Nat → Nat → Int64} {n : Nat} {Q : zQ} (hb : ∀ j : Int, 0 ≤ j → j < 4 → (h 22 j = 0 ∨ h 22 j = 1)) (hX : ∀ g, (∀ q, ¬ q = 9 → ¬ q = 10 → ¬ q = 11 → g q = h q) ∧ (∀ t : Int, 0 ≤ t → t < 4 → g 9 t = h 20 t ∧ g 10 t = h 21 t ∧ g 11 t = h 22 t) → ∀ u, zGo E (d + 1) M_X3_become 0 0 Q 127 ([some (.ref 4), some (.ref 15), some (.int u)], [], zJ (k, g, r, l, n), 0, 0)) : ∀ c : Nat, ∀ (m : Nat) (g : Nat → Int → Int), (∀ q, ¬ q = 9 → ¬ q = 10 → ¬ q = 11 → g q = h q) ∧ (∀ t : Int, 0 ≤ t → t < (m : Int) → g 9 t = h 20 t ∧ g 10 t = h 21 t ∧ g 11 t = h 22 t) → 4 < m + c → m ≤ 4 → zGo E (d + 1) M_X3_become 0 0 Q 80 ([some (.ref 4), some (.ref 15), some (.int (iI ((m : Int))))], [], zJ (k, g, r, l, n), 0, 0) := by
  have ok := ok_X3_become
  intro c
  induction c with
  | zero =>
    intros
    omega
  | succ c ih =>
    intro m g ⟨f, ft⟩ g1 g2
    refine s_ldI2 ok rfl ?_
    refine s_ci ok rfl ?_
    refine s_c_ge ok rfl ⟨by omega, by omega⟩ ⟨by omega, by omega⟩ (fun c82 => ?_) (fun c82 => ?_)
    · have em : m = 4 := by omega
      subst em
      exact hX g ⟨f, ft⟩ _
    · refine s_ldA0 ok rfl ?_
      refine s_getF ok rfl rfl rfl rfl ?_
      refine s_ldI2 ok rfl ?_
      refine s_ldA1 ok rfl ?_
      refine s_getF ok rfl rfl rfl rfl ?_
      refine s_ldI2 ok rfl ?_
      refine s_iald ok rfl (by exact rfl) (by exact rfl) (by omega) (by omega) ?_
      rw [congrFun (f 20 (by omega) (by omega) (by omega)) m]
      refine s_iast ok rfl (by exact rfl) (by exact rfl) (by omega) (by omega) (fun q => by cases q) ?_
      refine s_ldA0 ok rfl ?_
      refine s_getF ok rfl rfl rfl rfl ?_
      refine s_ldI2 ok rfl ?_
      refine s_ldA1 ok rfl ?_
      refine s_getF ok rfl rfl rfl rfl ?_
      refine s_ldI2 ok rfl ?_
      refine s_iald ok rfl (by exact rfl) (by exact rfl) (by omega) (by omega) ?_
      rw [show (zv g 9 m (h 20 m)) 21 (m : Int) = h 21 m from (congrFun (zv_other (by omega)) _).trans (congrFun (f 21 (by omega) (by omega) (by omega)) m)]
      refine s_iast ok rfl (by exact rfl) (by exact rfl) (by omega) (by omega) (fun q => by cases q) ?_
      refine s_ldA0 ok rfl ?_
      refine s_getF ok rfl rfl rfl rfl ?_
      refine s_ldI2 ok rfl ?_
      refine s_ldA1 ok rfl ?_
      refine s_getF ok rfl rfl rfl rfl ?_
      refine s_ldI2 ok rfl ?_
      refine s_iald ok rfl (by exact rfl) (by exact rfl) (by omega) (by omega) ?_
      rw [show (zv (zv g 9 m (h 20 m)) 10 m (h 21 m)) 22 (m : Int) = h 22 m from (congrFun (zv_other (by omega)) _).trans ((congrFun (zv_other (by omega)) _).trans (congrFun (f 22 (by omega) (by omega) (by omega)) m))]
      refine s_iast ok rfl (by exact rfl) (by exact rfl) (by omega) (by omega) (fun _ => by rcases hb m (by omega) (by omega) with e | e <;> rw [e] <;> first | exact Or.inl rfl | exact Or.inr rfl) ?_
      refine s_inc2 ok rfl rfl ?_
      refine s_goto ok rfl ?_
      refine ih (m + 1) _ ⟨fun q h1 h2 h3 => ?_, fun t t0 t1 => ?_⟩ (by omega) (by omega)
      · rw [zv_other h3, zv_other h2, zv_other h1]
        exact f q h1 h2 h3
      · by_cases e : t = m
        · subst e
          exact ⟨(congrFun (zv_other (by omega)) _).trans ((congrFun (zv_other (by omega)) _).trans zv_is), (congrFun (zv_other (by omega)) _).trans zv_is, zv_is⟩
        · obtain ⟨q1, q2, q3⟩ := ft t t0 (by omega)
          exact ⟨(congrFun (zv_other (by omega)) _).trans ((congrFun (zv_other (by omega)) _).trans ((zv_at e).trans q1)), (congrFun (zv_other (by omega)) _).trans ((zv_at e).trans q2), (zv_at e).trans q3⟩
theorem ct_become4_15 {E : zE} {d : Nat} {k : Nat → Nat × Nat} {h : Nat → Int → Int} {r : Nat → Int → Option Nat} {l : Nat → Nat → Int64} {n : Nat} {p : Int → Int} {w : Int} (hR : cR 15 16 17 18 19 20 21 22 23 24 k h r n p w) (hcn : cnP p w ≤ 8) (tr4 : p 0 ≤ 4) : zCT E (d + 1) M_X3_become [.ref 4, .ref 15] (zJ (k, h, r, l, n)) 0 0 (zUx (fun s => ∃ g r9, s = zJ (k, g, r9, l, n) ∧ (∀ q : Nat, q < 4 ∨ 13 < q → g q = h q) ∧ (∀ q, ¬ q = 5 → r9 q = r q) ∧ cR 4 5 6 7 8 9 10 11 12 13 k g r9 n p w)) := by
  have ok := ok_X3_become
  refine zCT_of pn_X3_become (Nat.le_of_ble_eq_true rfl) ?_
  show zGo _ _ _ _ _ _ 0 ([some (.ref 4), some (.ref 15), none], [], _, _, _)
  refine s_ldA0 ok rfl ?_
  refine s_ldA1 ok rfl ?_
  refine s_getJ 0 ok rfl rfl rfl rfl ?_
  refine s_putJ 0 ok rfl rfl rfl rfl (fun q => by cases q) ?_
  refine s_ci ok rfl ?_
  refine s_stI2 ok rfl rfl ?_
  refine lp_bec1_4_15 (E := E) (d := d) (k := k) (r := r) (l := l) (n := n) (h := h) hR.2.2.1 (fun g r9 ⟨f, f0, fr, ft⟩ u => ?_) 9 0 _ r ⟨fun q j h1 h2 h3 h4 => ?_, zv_is, fun q hq => rfl, fun t t0 t1 => by omega⟩ (by omega) (by omega)
  · refine s_ldA0 ok rfl ?_
    refine s_ldA1 ok rfl ?_
    refine s_getJ 5 ok rfl rfl rfl rfl ?_
    rw [show g 15 5 = h 15 5 from f 15 5 (by omega) (by omega) (by omega) (by omega)]
    refine s_putJ 5 ok rfl rfl rfl rfl (fun q => by cases q) ?_
    refine s_ci ok rfl ?_
    refine s_stI2 ok rfl rfl ?_
    refine lp_bec2_4_15 (E := E) (d := d) (k := k) (r := r9) (l := l) (n := n) (h := zv g 4 5 (h 15 5)) (fun j j0 j1 => ?_) (fun g2 ⟨e, et⟩ u2 => ?_) 5 0 _ ⟨fun q h1 h2 h3 => rfl, fun t t0 t1 => by omega⟩ (by omega) (by omega)
    · rw [zv_other (by omega), f 22 j (by omega) (by omega) (by omega) (by omega)]
      exact hR.2.2.2.2.1 j j0 j1
    · refine s_ldA1 ok rfl ?_
      refine s_getF ok rfl rfl rfl rfl ?_
      refine s_ci ok rfl ?_
      refine s_ldA0 ok rfl ?_
      refine s_getF ok rfl rfl rfl rfl ?_
      refine s_ci ok rfl ?_
      refine s_ldA0 ok rfl ?_
      refine s_getF ok rfl rfl rfl rfl ?_
      refine s_alen ok rfl rfl ?_
      rw [show ((4 : Nat) : Int) = (4 : Int) from rfl]
      refine s_copyJ ok rfl rfl (by exact rfl) (by exact rfl) (by omega) (by omega) (by omega) (by omega) (by omega) (by omega) (by omega) (by decide) ?_
      refine s_ldA1 ok rfl ?_
      refine s_getF ok rfl rfl rfl rfl ?_
      refine s_ci ok rfl ?_
      refine s_ldA0 ok rfl ?_
      refine s_getF ok rfl rfl rfl rfl ?_
      refine s_ci ok rfl ?_
      refine s_ldA0 ok rfl ?_
      refine s_getF ok rfl rfl rfl rfl ?_
      refine s_alen ok rfl rfl ?_
      rw [show ((4 : Nat) : Int) = (4 : Int) from rfl]
      refine s_copyJ ok rfl rfl (by exact rfl) (by exact rfl) (by omega) (by omega) (by omega) (by omega) (by omega) (by omega) (by omega) (by decide) ?_
      have hs : ∀ q j, ¬ q = 9 → ¬ q = 10 → ¬ q = 11 → ¬ q = 4 → ¬ q = 6 → ¬ q = 7 → ¬ q = 8 → g2 q j = h q j := fun q j h5 h6 h7 h0 h2 h3 h4 => by
        rw [e q h5 h6 h7, zv_other h0]
        exact f q j (fun z => h0 z.1) h2 h3 h4
      have hc : ∀ q j, ¬ q = 12 → ¬ q = 13 → zcp (zcp g2 23 12 0 0 4) 24 13 0 0 4 q j = g2 q j := fun q j h8 h9 => by
        unfold zcp
        rw [if_neg (fun z => h9 z.1), if_neg (fun z => h8 z.1)]
      refine s_retV ok rfl ⟨rfl, _, r9, rfl, fun q hq => funext fun j => ?_, fr, ?_⟩
      · rw [hc q j (by omega) (by omega)]
        exact hs q j (by omega) (by omega) (by omega) (by omega) (by omega) (by omega) (by omega)
      · obtain ⟨⟨c0, c5⟩, c1, c2, c3, c4, c6⟩ := hR
        have fw : fW k h (zcp (zcp g2 23 12 0 0 4) 24 13 0 0 4) := fW_fix fun q hq => funext fun j => by
          rw [hc q j (by omega) (by omega)]
          exact hs q j (by omega) (by omega) (by omega) (by omega) (by omega) (by omega) (by omega)
        have g0 : g2 4 0 = h 15 0 := by rw [e 4 (by omega) (by omega) (by omega), zv_at (by omega)]; exact f0
        have g5 : g2 4 5 = h 15 5 := by rw [e 4 (by omega) (by omega) (by omega), zv_is]
        have cn : cnP p w ≤ 8 := hcn
        refine ⟨⟨?_, ?_⟩, fun t t0 t1 => ?_, fun t t0 t1 => ?_, fun x x0 x1 => ?_, fun j j0 j1 => ?_, fun j j0 j1 => ?_⟩
        · rw [hc _ _ (by omega) (by omega), g0]; exact c0
        · rw [hc _ _ (by omega) (by omega), g5]; exact c5
        · obtain ⟨v, v1, v2, v3, v4, v5⟩ := c1 t t0 t1
          obtain ⟨q1, q2, q3, q4⟩ := ft t t0 (by omega)
          refine ⟨v, q1.trans v1, wk_fr v2 fw, ?_, ?_, ?_⟩
          · rw [hc _ _ (by omega) (by omega), e 6 (by omega) (by omega) (by omega), zv_other (by omega)]; exact q2.trans v3
          · rw [hc _ _ (by omega) (by omega), e 7 (by omega) (by omega) (by omega), zv_other (by omega)]; exact q3.trans v4
          · rw [hc _ _ (by omega) (by omega), e 8 (by omega) (by omega) (by omega), zv_other (by omega)]; exact q4.trans v5
        · obtain ⟨v, c, v1, v2, v3⟩ := c2 t t0 t1
          exact ⟨v, c, (ft t t0 t1).1.trans v1, v2, v3⟩
        · obtain ⟨q1, q2, q3⟩ := et x x0 (by omega)
          obtain ⟨w1, w2, w3⟩ := c3 x x0 x1
          have hz : ∀ q j, ¬ q = 4 → ¬ q = 6 → ¬ q = 7 → ¬ q = 8 → zv g 4 5 (h 15 5) q j = h q j := fun q j h0 h2 h3 h4 => by
            rw [zv_other h0]
            exact f q j (fun z => h0 z.1) h2 h3 h4
          refine ⟨?_, ?_, ?_⟩
          · rw [hc _ _ (by omega) (by omega), q1, hz _ _ (by omega) (by omega) (by omega) (by omega)]; exact w1
          · rw [hc _ _ (by omega) (by omega), q2, hz _ _ (by omega) (by omega) (by omega) (by omega)]; exact w2
          · rw [hc _ _ (by omega) (by omega), q3, hz _ _ (by omega) (by omega) (by omega) (by omega)]; exact w3
        · obtain ⟨q1, q2, q3⟩ := et j j0 j1
          rw [hc _ _ (by omega) (by omega), q3, zv_other (by omega), f 22 j (by omega) (by omega) (by omega) (by omega)]
          exact c4 j j0 j1
        · obtain ⟨w1, w2⟩ := c6 j j0 j1
          have z9 : zcp (zcp g2 23 12 0 0 4) 24 13 0 0 4 12 j = g2 23 j := by
            unfold zcp
            rw [if_neg (by omega), if_pos (by omega)]
            congr 1
            omega
          have z8 : zcp (zcp g2 23 12 0 0 4) 24 13 0 0 4 13 j = g2 24 j := by
            unfold zcp
            rw [if_pos (by omega), if_neg (by omega)]
            congr 1
            omega
          refine ⟨?_, ?_⟩
          · rw [z9, hs 23 j (by omega) (by omega) (by omega) (by omega) (by omega) (by omega) (by omega)]; exact w1
          · rw [z8, hs 24 j (by omega) (by omega) (by omega) (by omega) (by omega) (by omega) (by omega)]; exact w2
  · rw [zv_eq, if_neg h1]
theorem lp_bec1_26_4 {E : zE} {d : Nat} {k : Nat → Nat × Nat} {h : Nat → Int → Int} {r : Nat → Int → Option Nat} {l : Nat → Nat → Int64} {n : Nat} {Q : zQ} (hw : ∀ t : Int, 0 ≤ t → t < 8 → ∃ v c, r 5 t = some v ∧ zkF k v = (c, 2) ∧ zmem c [0, 1, 2, 5, 6, 7, 8, 10] = true ∧ v < n) (hX : ∀ g r9, (∀ q j, ¬ (q = 26 ∧ j = 0) → ¬ q = 28 → ¬ q = 29 → ¬ q = 30 → g q j = h q j) ∧ g 26 0 = h 4 0 ∧ (∀ q, ¬ q = 27 → r9 q = r q) ∧ (∀ t : Int, 0 ≤ t → t < 8 → r9 27 t = r 5 t ∧ g 28 t = h 6 t ∧ g 29 t = h 7 t ∧ g 30 t = h 8 t) → ∀ u, zGo E (d + 1) M_X3_become 0 0 Q 70 ([some (.ref 26), some (.ref 4), some (.int u)], [], zJ (k, g, r9, l, n), 0, 0)) : ∀ c : Nat, ∀ (m : Nat) (g : Nat → Int → Int) (r9 : Nat → Int → Option Nat), (∀ q j, ¬ (q = 26 ∧ j = 0) → ¬ q = 28 → ¬ q = 29 → ¬ q = 30 → g q j = h q j) ∧ g 26 0 = h 4 0 ∧ (∀ q, ¬ q = 27 → r9 q = r q) ∧ (∀ t : Int, 0 ≤ t → t < (m : Int) → r9 27 t = r 5 t ∧ g 28 t = h 6 t ∧ g 29 t = h 7 t ∧ g 30 t = h 8 t) → 8 < m + c → m ≤ 8 → zGo E (d + 1) M_X3_become 0 0 Q 10 ([some (.ref 26), some (.ref 4), some (.int (iI ((m : Int))))], [], zJ (k, g, r9, l, n), 0, 0) := by
  have ok := ok_X3_become
  intro c
  induction c with
  | zero =>
    intros
    omega
  | succ c ih =>
    intro m g r9 ⟨f, f0, fr, ft⟩ g1 g2
    refine s_ldI2 ok rfl ?_
    refine s_ci ok rfl ?_
    refine s_c_ge ok rfl ⟨by omega, by omega⟩ ⟨by omega, by omega⟩ (fun c13 => ?_) (fun c13 => ?_)
    · have em : m = 8 := by omega
      subst em
      exact hX g r9 ⟨f, f0, fr, ft⟩ _
    · obtain ⟨v9, cv, hv1, hv2, hv3, -⟩ := hw m (by omega) (by omega)
      have hv : r9 5 (m : Int) = some v9 := by rw [fr 5 (by omega)]; exact hv1
      refine s_ldA0 ok rfl ?_
      refine s_getF ok rfl rfl rfl rfl ?_
      refine s_ldI2 ok rfl ?_
      refine s_ldA1 ok rfl ?_
      refine s_getF ok rfl rfl rfl rfl ?_
      refine s_ldI2 ok rfl ?_
      refine s_aald ok rfl (by exact rfl) (by exact rfl) (by exact rfl) (by omega) (by omega) hv ?_
      refine s_aast ok rfl (by exact rfl) (by exact rfl) (by exact rfl) (by omega) (by omega) hv2 hv3 ?_
      refine s_ldA0 ok rfl ?_
      refine s_getF ok rfl rfl rfl rfl ?_
      refine s_ldI2 ok rfl ?_
      refine s_ldA1 ok rfl ?_
      refine s_getF ok rfl rfl rfl rfl ?_
      refine s_ldI2 ok rfl ?_
      refine s_iald ok rfl (by exact rfl) (by exact rfl) (by omega) (by omega) ?_
      rw [f 6 m (by omega) (by omega) (by omega) (by omega)]
      refine s_iast ok rfl (by exact rfl) (by exact rfl) (by omega) (by omega) (fun q => by cases q) ?_
      refine s_ldA0 ok rfl ?_
      refine s_getF ok rfl rfl rfl rfl ?_
      refine s_ldI2 ok rfl ?_
      refine s_ldA1 ok rfl ?_
      refine s_getF ok rfl rfl rfl rfl ?_
      refine s_ldI2 ok rfl ?_
      refine s_iald ok rfl (by exact rfl) (by exact rfl) (by omega) (by omega) ?_
      rw [show (zv g 28 m (h 6 m)) 7 (m : Int) = h 7 m from (congrFun (zv_other (by omega)) _).trans (f 7 m (by omega) (by omega) (by omega) (by omega))]
      refine s_iast ok rfl (by exact rfl) (by exact rfl) (by omega) (by omega) (fun q => by cases q) ?_
      refine s_ldA0 ok rfl ?_
      refine s_getF ok rfl rfl rfl rfl ?_
      refine s_ldI2 ok rfl ?_
      refine s_ldA1 ok rfl ?_
      refine s_getF ok rfl rfl rfl rfl ?_
      refine s_ldI2 ok rfl ?_
      refine s_iald ok rfl (by exact rfl) (by exact rfl) (by omega) (by omega) ?_
      rw [show (zv (zv g 28 m (h 6 m)) 29 m (h 7 m)) 8 (m : Int) = h 8 m from (congrFun (zv_other (by omega)) _).trans ((congrFun (zv_other (by omega)) _).trans (f 8 m (by omega) (by omega) (by omega) (by omega)))]
      refine s_iast ok rfl (by exact rfl) (by exact rfl) (by omega) (by omega) (fun q => by cases q) ?_
      refine s_inc2 ok rfl rfl ?_
      refine s_goto ok rfl ?_
      refine ih (m + 1) _ _ ⟨fun q j h1 h2 h3 h4 => ?_, ?_, fun q hq => ?_, fun t t0 t1 => ?_⟩ (by omega) (by omega)
      · rw [zv_other h4, zv_other h3, zv_other h2]
        exact f q j h1 h2 h3 h4
      · rw [zv_other (by omega), zv_other (by omega), zv_other (by omega)]
        exact f0
      · rw [zv_other hq]
        exact fr q hq
      · by_cases e : t = m
        · subst e
          exact ⟨zv_is.trans hv1.symm, (congrFun (zv_other (by omega)) _).trans ((congrFun (zv_other (by omega)) _).trans zv_is), (congrFun (zv_other (by omega)) _).trans zv_is, zv_is⟩
        · obtain ⟨q1, q2, q3, q4⟩ := ft t t0 (by omega)
          exact ⟨(zv_at e).trans q1, (congrFun (zv_other (by omega)) _).trans ((congrFun (zv_other (by omega)) _).trans ((zv_at e).trans q2)), (congrFun (zv_other (by omega)) _).trans ((zv_at e).trans q3), (zv_at e).trans q4⟩
theorem lp_bec2_26_4 {E : zE} {d : Nat} {k : Nat → Nat × Nat} {h : Nat → Int → Int} {r : Nat → Int → Option Nat} {l : Nat → Nat → Int64} {n : Nat} {Q : zQ} (hb : ∀ j : Int, 0 ≤ j → j < 4 → (h 11 j = 0 ∨ h 11 j = 1)) (hX : ∀ g, (∀ q, ¬ q = 31 → ¬ q = 32 → ¬ q = 33 → g q = h q) ∧ (∀ t : Int, 0 ≤ t → t < 4 → g 31 t = h 9 t ∧ g 32 t = h 10 t ∧ g 33 t = h 11 t) → ∀ u, zGo E (d + 1) M_X3_become 0 0 Q 127 ([some (.ref 26), some (.ref 4), some (.int u)], [], zJ (k, g, r, l, n), 0, 0)) : ∀ c : Nat, ∀ (m : Nat) (g : Nat → Int → Int), (∀ q, ¬ q = 31 → ¬ q = 32 → ¬ q = 33 → g q = h q) ∧ (∀ t : Int, 0 ≤ t → t < (m : Int) → g 31 t = h 9 t ∧ g 32 t = h 10 t ∧ g 33 t = h 11 t) → 4 < m + c → m ≤ 4 → zGo E (d + 1) M_X3_become 0 0 Q 80 ([some (.ref 26), some (.ref 4), some (.int (iI ((m : Int))))], [], zJ (k, g, r, l, n), 0, 0) := by
  have ok := ok_X3_become
  intro c
  induction c with
  | zero =>
    intros
    omega
  | succ c ih =>
    intro m g ⟨f, ft⟩ g1 g2
    refine s_ldI2 ok rfl ?_
    refine s_ci ok rfl ?_
    refine s_c_ge ok rfl ⟨by omega, by omega⟩ ⟨by omega, by omega⟩ (fun c82 => ?_) (fun c82 => ?_)
    · have em : m = 4 := by omega
      subst em
      exact hX g ⟨f, ft⟩ _
    · refine s_ldA0 ok rfl ?_
      refine s_getF ok rfl rfl rfl rfl ?_
      refine s_ldI2 ok rfl ?_
      refine s_ldA1 ok rfl ?_
      refine s_getF ok rfl rfl rfl rfl ?_
      refine s_ldI2 ok rfl ?_
      refine s_iald ok rfl (by exact rfl) (by exact rfl) (by omega) (by omega) ?_
      rw [congrFun (f 9 (by omega) (by omega) (by omega)) m]
      refine s_iast ok rfl (by exact rfl) (by exact rfl) (by omega) (by omega) (fun q => by cases q) ?_
      refine s_ldA0 ok rfl ?_
      refine s_getF ok rfl rfl rfl rfl ?_
      refine s_ldI2 ok rfl ?_
      refine s_ldA1 ok rfl ?_
      refine s_getF ok rfl rfl rfl rfl ?_
      refine s_ldI2 ok rfl ?_
      refine s_iald ok rfl (by exact rfl) (by exact rfl) (by omega) (by omega) ?_
      rw [show (zv g 31 m (h 9 m)) 10 (m : Int) = h 10 m from (congrFun (zv_other (by omega)) _).trans (congrFun (f 10 (by omega) (by omega) (by omega)) m)]
      refine s_iast ok rfl (by exact rfl) (by exact rfl) (by omega) (by omega) (fun q => by cases q) ?_
      refine s_ldA0 ok rfl ?_
      refine s_getF ok rfl rfl rfl rfl ?_
      refine s_ldI2 ok rfl ?_
      refine s_ldA1 ok rfl ?_
      refine s_getF ok rfl rfl rfl rfl ?_
      refine s_ldI2 ok rfl ?_
      refine s_iald ok rfl (by exact rfl) (by exact rfl) (by omega) (by omega) ?_
      rw [show (zv (zv g 31 m (h 9 m)) 32 m (h 10 m)) 11 (m : Int) = h 11 m from (congrFun (zv_other (by omega)) _).trans ((congrFun (zv_other (by omega)) _).trans (congrFun (f 11 (by omega) (by omega) (by omega)) m))]
      refine s_iast ok rfl (by exact rfl) (by exact rfl) (by omega) (by omega) (fun _ => by rcases hb m (by omega) (by omega) with e | e <;> rw [e] <;> first | exact Or.inl rfl | exact Or.inr rfl) ?_
      refine s_inc2 ok rfl rfl ?_
      refine s_goto ok rfl ?_
      refine ih (m + 1) _ ⟨fun q h1 h2 h3 => ?_, fun t t0 t1 => ?_⟩ (by omega) (by omega)
      · rw [zv_other h3, zv_other h2, zv_other h1]
        exact f q h1 h2 h3
      · by_cases e : t = m
        · subst e
          exact ⟨(congrFun (zv_other (by omega)) _).trans ((congrFun (zv_other (by omega)) _).trans zv_is), (congrFun (zv_other (by omega)) _).trans zv_is, zv_is⟩
        · obtain ⟨q1, q2, q3⟩ := ft t t0 (by omega)
          exact ⟨(congrFun (zv_other (by omega)) _).trans ((congrFun (zv_other (by omega)) _).trans ((zv_at e).trans q1)), (congrFun (zv_other (by omega)) _).trans ((zv_at e).trans q2), (zv_at e).trans q3⟩
theorem ct_become26_4 {E : zE} {d : Nat} {k : Nat → Nat × Nat} {h : Nat → Int → Int} {r : Nat → Int → Option Nat} {l : Nat → Nat → Int64} {n : Nat} {p : Int → Int} {w : Int} (hR : cR 4 5 6 7 8 9 10 11 12 13 k h r n p w) (hcn : cnP p w ≤ 8) (tr4 : p 0 ≤ 4) : zCT E (d + 1) M_X3_become [.ref 26, .ref 4] (zJ (k, h, r, l, n)) 0 0 (zUx (fun s => ∃ g r9, s = zJ (k, g, r9, l, n) ∧ (∀ q : Nat, q < 26 ∨ 35 < q → g q = h q) ∧ (∀ q, ¬ q = 27 → r9 q = r q) ∧ cR 26 27 28 29 30 31 32 33 34 35 k g r9 n p w)) := by
  have ok := ok_X3_become
  refine zCT_of pn_X3_become (Nat.le_of_ble_eq_true rfl) ?_
  show zGo _ _ _ _ _ _ 0 ([some (.ref 26), some (.ref 4), none], [], _, _, _)
  refine s_ldA0 ok rfl ?_
  refine s_ldA1 ok rfl ?_
  refine s_getJ 0 ok rfl rfl rfl rfl ?_
  refine s_putJ 0 ok rfl rfl rfl rfl (fun q => by cases q) ?_
  refine s_ci ok rfl ?_
  refine s_stI2 ok rfl rfl ?_
  refine lp_bec1_26_4 (E := E) (d := d) (k := k) (r := r) (l := l) (n := n) (h := h) hR.2.2.1 (fun g r9 ⟨f, f0, fr, ft⟩ u => ?_) 9 0 _ r ⟨fun q j h1 h2 h3 h4 => ?_, zv_is, fun q hq => rfl, fun t t0 t1 => by omega⟩ (by omega) (by omega)
  · refine s_ldA0 ok rfl ?_
    refine s_ldA1 ok rfl ?_
    refine s_getJ 5 ok rfl rfl rfl rfl ?_
    rw [show g 4 5 = h 4 5 from f 4 5 (by omega) (by omega) (by omega) (by omega)]
    refine s_putJ 5 ok rfl rfl rfl rfl (fun q => by cases q) ?_
    refine s_ci ok rfl ?_
    refine s_stI2 ok rfl rfl ?_
    refine lp_bec2_26_4 (E := E) (d := d) (k := k) (r := r9) (l := l) (n := n) (h := zv g 26 5 (h 4 5)) (fun j j0 j1 => ?_) (fun g2 ⟨e, et⟩ u2 => ?_) 5 0 _ ⟨fun q h1 h2 h3 => rfl, fun t t0 t1 => by omega⟩ (by omega) (by omega)
    · rw [zv_other (by omega), f 11 j (by omega) (by omega) (by omega) (by omega)]
      exact hR.2.2.2.2.1 j j0 j1
    · refine s_ldA1 ok rfl ?_
      refine s_getF ok rfl rfl rfl rfl ?_
      refine s_ci ok rfl ?_
      refine s_ldA0 ok rfl ?_
      refine s_getF ok rfl rfl rfl rfl ?_
      refine s_ci ok rfl ?_
      refine s_ldA0 ok rfl ?_
      refine s_getF ok rfl rfl rfl rfl ?_
      refine s_alen ok rfl rfl ?_
      rw [show ((4 : Nat) : Int) = (4 : Int) from rfl]
      refine s_copyJ ok rfl rfl (by exact rfl) (by exact rfl) (by omega) (by omega) (by omega) (by omega) (by omega) (by omega) (by omega) (by decide) ?_
      refine s_ldA1 ok rfl ?_
      refine s_getF ok rfl rfl rfl rfl ?_
      refine s_ci ok rfl ?_
      refine s_ldA0 ok rfl ?_
      refine s_getF ok rfl rfl rfl rfl ?_
      refine s_ci ok rfl ?_
      refine s_ldA0 ok rfl ?_
      refine s_getF ok rfl rfl rfl rfl ?_
      refine s_alen ok rfl rfl ?_
      rw [show ((4 : Nat) : Int) = (4 : Int) from rfl]
      refine s_copyJ ok rfl rfl (by exact rfl) (by exact rfl) (by omega) (by omega) (by omega) (by omega) (by omega) (by omega) (by omega) (by decide) ?_
      have hs : ∀ q j, ¬ q = 31 → ¬ q = 32 → ¬ q = 33 → ¬ q = 26 → ¬ q = 28 → ¬ q = 29 → ¬ q = 30 → g2 q j = h q j := fun q j h5 h6 h7 h0 h2 h3 h4 => by
        rw [e q h5 h6 h7, zv_other h0]
        exact f q j (fun z => h0 z.1) h2 h3 h4
      have hc : ∀ q j, ¬ q = 34 → ¬ q = 35 → zcp (zcp g2 12 34 0 0 4) 13 35 0 0 4 q j = g2 q j := fun q j h8 h9 => by
        unfold zcp
        rw [if_neg (fun z => h9 z.1), if_neg (fun z => h8 z.1)]
      refine s_retV ok rfl ⟨rfl, _, r9, rfl, fun q hq => funext fun j => ?_, fr, ?_⟩
      · rw [hc q j (by omega) (by omega)]
        exact hs q j (by omega) (by omega) (by omega) (by omega) (by omega) (by omega) (by omega)
      · obtain ⟨⟨c0, c5⟩, c1, c2, c3, c4, c6⟩ := hR
        have fw : fW k h (zcp (zcp g2 12 34 0 0 4) 13 35 0 0 4) := fW_fix fun q hq => funext fun j => by
          rw [hc q j (by omega) (by omega)]
          exact hs q j (by omega) (by omega) (by omega) (by omega) (by omega) (by omega) (by omega)
        have g0 : g2 26 0 = h 4 0 := by rw [e 26 (by omega) (by omega) (by omega), zv_at (by omega)]; exact f0
        have g5 : g2 26 5 = h 4 5 := by rw [e 26 (by omega) (by omega) (by omega), zv_is]
        have cn : cnP p w ≤ 8 := hcn
        refine ⟨⟨?_, ?_⟩, fun t t0 t1 => ?_, fun t t0 t1 => ?_, fun x x0 x1 => ?_, fun j j0 j1 => ?_, fun j j0 j1 => ?_⟩
        · rw [hc _ _ (by omega) (by omega), g0]; exact c0
        · rw [hc _ _ (by omega) (by omega), g5]; exact c5
        · obtain ⟨v, v1, v2, v3, v4, v5⟩ := c1 t t0 t1
          obtain ⟨q1, q2, q3, q4⟩ := ft t t0 (by omega)
          refine ⟨v, q1.trans v1, wk_fr v2 fw, ?_, ?_, ?_⟩
          · rw [hc _ _ (by omega) (by omega), e 28 (by omega) (by omega) (by omega), zv_other (by omega)]; exact q2.trans v3
          · rw [hc _ _ (by omega) (by omega), e 29 (by omega) (by omega) (by omega), zv_other (by omega)]; exact q3.trans v4
          · rw [hc _ _ (by omega) (by omega), e 30 (by omega) (by omega) (by omega), zv_other (by omega)]; exact q4.trans v5
        · obtain ⟨v, c, v1, v2, v3⟩ := c2 t t0 t1
          exact ⟨v, c, (ft t t0 t1).1.trans v1, v2, v3⟩
        · obtain ⟨q1, q2, q3⟩ := et x x0 (by omega)
          obtain ⟨w1, w2, w3⟩ := c3 x x0 x1
          have hz : ∀ q j, ¬ q = 26 → ¬ q = 28 → ¬ q = 29 → ¬ q = 30 → zv g 26 5 (h 4 5) q j = h q j := fun q j h0 h2 h3 h4 => by
            rw [zv_other h0]
            exact f q j (fun z => h0 z.1) h2 h3 h4
          refine ⟨?_, ?_, ?_⟩
          · rw [hc _ _ (by omega) (by omega), q1, hz _ _ (by omega) (by omega) (by omega) (by omega)]; exact w1
          · rw [hc _ _ (by omega) (by omega), q2, hz _ _ (by omega) (by omega) (by omega) (by omega)]; exact w2
          · rw [hc _ _ (by omega) (by omega), q3, hz _ _ (by omega) (by omega) (by omega) (by omega)]; exact w3
        · obtain ⟨q1, q2, q3⟩ := et j j0 j1
          rw [hc _ _ (by omega) (by omega), q3, zv_other (by omega), f 11 j (by omega) (by omega) (by omega) (by omega)]
          exact c4 j j0 j1
        · obtain ⟨w1, w2⟩ := c6 j j0 j1
          have z9 : zcp (zcp g2 12 34 0 0 4) 13 35 0 0 4 34 j = g2 12 j := by
            unfold zcp
            rw [if_neg (by omega), if_pos (by omega)]
            congr 1
            omega
          have z8 : zcp (zcp g2 12 34 0 0 4) 13 35 0 0 4 35 j = g2 13 j := by
            unfold zcp
            rw [if_pos (by omega), if_neg (by omega)]
            congr 1
            omega
          refine ⟨?_, ?_⟩
          · rw [z9, hs 12 j (by omega) (by omega) (by omega) (by omega) (by omega) (by omega) (by omega)]; exact w1
          · rw [z8, hs 13 j (by omega) (by omega) (by omega) (by omega) (by omega) (by omega) (by omega)]; exact w2
  · rw [zv_eq, if_neg h1]
theorem lp_bec1_4_26 {E : zE} {d : Nat} {k : Nat → Nat × Nat} {h : Nat → Int → Int} {r : Nat → Int → Option Nat} {l : Nat → Nat → Int64} {n : Nat} {Q : zQ} (hw : ∀ t : Int, 0 ≤ t → t < 8 → ∃ v c, r 27 t = some v ∧ zkF k v = (c, 2) ∧ zmem c [0, 1, 2, 5, 6, 7, 8, 10] = true ∧ v < n) (hX : ∀ g r9, (∀ q j, ¬ (q = 4 ∧ j = 0) → ¬ q = 6 → ¬ q = 7 → ¬ q = 8 → g q j = h q j) ∧ g 4 0 = h 26 0 ∧ (∀ q, ¬ q = 5 → r9 q = r q) ∧ (∀ t : Int, 0 ≤ t → t < 8 → r9 5 t = r 27 t ∧ g 6 t = h 28 t ∧ g 7 t = h 29 t ∧ g 8 t = h 30 t) → ∀ u, zGo E (d + 1) M_X3_become 0 0 Q 70 ([some (.ref 4), some (.ref 26), some (.int u)], [], zJ (k, g, r9, l, n), 0, 0)) : ∀ c : Nat, ∀ (m : Nat) (g : Nat → Int → Int) (r9 : Nat → Int → Option Nat), (∀ q j, ¬ (q = 4 ∧ j = 0) → ¬ q = 6 → ¬ q = 7 → ¬ q = 8 → g q j = h q j) ∧ g 4 0 = h 26 0 ∧ (∀ q, ¬ q = 5 → r9 q = r q) ∧ (∀ t : Int, 0 ≤ t → t < (m : Int) → r9 5 t = r 27 t ∧ g 6 t = h 28 t ∧ g 7 t = h 29 t ∧ g 8 t = h 30 t) → 8 < m + c → m ≤ 8 → zGo E (d + 1) M_X3_become 0 0 Q 10 ([some (.ref 4), some (.ref 26), some (.int (iI ((m : Int))))], [], zJ (k, g, r9, l, n), 0, 0) := by
  have ok := ok_X3_become
  intro c
  induction c with
  | zero =>
    intros
    omega
  | succ c ih =>
    intro m g r9 ⟨f, f0, fr, ft⟩ g1 g2
    refine s_ldI2 ok rfl ?_
    refine s_ci ok rfl ?_
    refine s_c_ge ok rfl ⟨by omega, by omega⟩ ⟨by omega, by omega⟩ (fun c13 => ?_) (fun c13 => ?_)
    · have em : m = 8 := by omega
      subst em
      exact hX g r9 ⟨f, f0, fr, ft⟩ _
    · obtain ⟨v9, cv, hv1, hv2, hv3, -⟩ := hw m (by omega) (by omega)
      have hv : r9 27 (m : Int) = some v9 := by rw [fr 27 (by omega)]; exact hv1
      refine s_ldA0 ok rfl ?_
      refine s_getF ok rfl rfl rfl rfl ?_
      refine s_ldI2 ok rfl ?_
      refine s_ldA1 ok rfl ?_
      refine s_getF ok rfl rfl rfl rfl ?_
      refine s_ldI2 ok rfl ?_
      refine s_aald ok rfl (by exact rfl) (by exact rfl) (by exact rfl) (by omega) (by omega) hv ?_
      refine s_aast ok rfl (by exact rfl) (by exact rfl) (by exact rfl) (by omega) (by omega) hv2 hv3 ?_
      refine s_ldA0 ok rfl ?_
      refine s_getF ok rfl rfl rfl rfl ?_
      refine s_ldI2 ok rfl ?_
      refine s_ldA1 ok rfl ?_
      refine s_getF ok rfl rfl rfl rfl ?_
      refine s_ldI2 ok rfl ?_
      refine s_iald ok rfl (by exact rfl) (by exact rfl) (by omega) (by omega) ?_
      rw [f 28 m (by omega) (by omega) (by omega) (by omega)]
      refine s_iast ok rfl (by exact rfl) (by exact rfl) (by omega) (by omega) (fun q => by cases q) ?_
      refine s_ldA0 ok rfl ?_
      refine s_getF ok rfl rfl rfl rfl ?_
      refine s_ldI2 ok rfl ?_
      refine s_ldA1 ok rfl ?_
      refine s_getF ok rfl rfl rfl rfl ?_
      refine s_ldI2 ok rfl ?_
      refine s_iald ok rfl (by exact rfl) (by exact rfl) (by omega) (by omega) ?_
      rw [show (zv g 6 m (h 28 m)) 29 (m : Int) = h 29 m from (congrFun (zv_other (by omega)) _).trans (f 29 m (by omega) (by omega) (by omega) (by omega))]
      refine s_iast ok rfl (by exact rfl) (by exact rfl) (by omega) (by omega) (fun q => by cases q) ?_
      refine s_ldA0 ok rfl ?_
      refine s_getF ok rfl rfl rfl rfl ?_
      refine s_ldI2 ok rfl ?_
      refine s_ldA1 ok rfl ?_
      refine s_getF ok rfl rfl rfl rfl ?_
      refine s_ldI2 ok rfl ?_
      refine s_iald ok rfl (by exact rfl) (by exact rfl) (by omega) (by omega) ?_
      rw [show (zv (zv g 6 m (h 28 m)) 7 m (h 29 m)) 30 (m : Int) = h 30 m from (congrFun (zv_other (by omega)) _).trans ((congrFun (zv_other (by omega)) _).trans (f 30 m (by omega) (by omega) (by omega) (by omega)))]
      refine s_iast ok rfl (by exact rfl) (by exact rfl) (by omega) (by omega) (fun q => by cases q) ?_
      refine s_inc2 ok rfl rfl ?_
      refine s_goto ok rfl ?_
      refine ih (m + 1) _ _ ⟨fun q j h1 h2 h3 h4 => ?_, ?_, fun q hq => ?_, fun t t0 t1 => ?_⟩ (by omega) (by omega)
      · rw [zv_other h4, zv_other h3, zv_other h2]
        exact f q j h1 h2 h3 h4
      · rw [zv_other (by omega), zv_other (by omega), zv_other (by omega)]
        exact f0
      · rw [zv_other hq]
        exact fr q hq
      · by_cases e : t = m
        · subst e
          exact ⟨zv_is.trans hv1.symm, (congrFun (zv_other (by omega)) _).trans ((congrFun (zv_other (by omega)) _).trans zv_is), (congrFun (zv_other (by omega)) _).trans zv_is, zv_is⟩
        · obtain ⟨q1, q2, q3, q4⟩ := ft t t0 (by omega)
          exact ⟨(zv_at e).trans q1, (congrFun (zv_other (by omega)) _).trans ((congrFun (zv_other (by omega)) _).trans ((zv_at e).trans q2)), (congrFun (zv_other (by omega)) _).trans ((zv_at e).trans q3), (zv_at e).trans q4⟩
theorem lp_bec2_4_26 {E : zE} {d : Nat} {k : Nat → Nat × Nat} {h : Nat → Int → Int} {r : Nat → Int → Option Nat} {l : Nat → Nat → Int64} {n : Nat} {Q : zQ} (hb : ∀ j : Int, 0 ≤ j → j < 4 → (h 33 j = 0 ∨ h 33 j = 1)) (hX : ∀ g, (∀ q, ¬ q = 9 → ¬ q = 10 → ¬ q = 11 → g q = h q) ∧ (∀ t : Int, 0 ≤ t → t < 4 → g 9 t = h 31 t ∧ g 10 t = h 32 t ∧ g 11 t = h 33 t) → ∀ u, zGo E (d + 1) M_X3_become 0 0 Q 127 ([some (.ref 4), some (.ref 26), some (.int u)], [], zJ (k, g, r, l, n), 0, 0)) : ∀ c : Nat, ∀ (m : Nat) (g : Nat → Int → Int), (∀ q, ¬ q = 9 → ¬ q = 10 → ¬ q = 11 → g q = h q) ∧ (∀ t : Int, 0 ≤ t → t < (m : Int) → g 9 t = h 31 t ∧ g 10 t = h 32 t ∧ g 11 t = h 33 t) → 4 < m + c → m ≤ 4 → zGo E (d + 1) M_X3_become 0 0 Q 80 ([some (.ref 4), some (.ref 26), some (.int (iI ((m : Int))))], [], zJ (k, g, r, l, n), 0, 0) := by
  have ok := ok_X3_become
  intro c
  induction c with
  | zero =>
    intros
    omega
  | succ c ih =>
    intro m g ⟨f, ft⟩ g1 g2
    refine s_ldI2 ok rfl ?_
    refine s_ci ok rfl ?_
    refine s_c_ge ok rfl ⟨by omega, by omega⟩ ⟨by omega, by omega⟩ (fun c82 => ?_) (fun c82 => ?_)
    · have em : m = 4 := by omega
      subst em
      exact hX g ⟨f, ft⟩ _
    · refine s_ldA0 ok rfl ?_
      refine s_getF ok rfl rfl rfl rfl ?_
      refine s_ldI2 ok rfl ?_
      refine s_ldA1 ok rfl ?_
      refine s_getF ok rfl rfl rfl rfl ?_
      refine s_ldI2 ok rfl ?_
      refine s_iald ok rfl (by exact rfl) (by exact rfl) (by omega) (by omega) ?_
      rw [congrFun (f 31 (by omega) (by omega) (by omega)) m]
      refine s_iast ok rfl (by exact rfl) (by exact rfl) (by omega) (by omega) (fun q => by cases q) ?_
      refine s_ldA0 ok rfl ?_
      refine s_getF ok rfl rfl rfl rfl ?_
      refine s_ldI2 ok rfl ?_
      refine s_ldA1 ok rfl ?_
      refine s_getF ok rfl rfl rfl rfl ?_
      refine s_ldI2 ok rfl ?_
      refine s_iald ok rfl (by exact rfl) (by exact rfl) (by omega) (by omega) ?_
      rw [show (zv g 9 m (h 31 m)) 32 (m : Int) = h 32 m from (congrFun (zv_other (by omega)) _).trans (congrFun (f 32 (by omega) (by omega) (by omega)) m)]
      refine s_iast ok rfl (by exact rfl) (by exact rfl) (by omega) (by omega) (fun q => by cases q) ?_
      refine s_ldA0 ok rfl ?_
      refine s_getF ok rfl rfl rfl rfl ?_
      refine s_ldI2 ok rfl ?_
      refine s_ldA1 ok rfl ?_
      refine s_getF ok rfl rfl rfl rfl ?_
      refine s_ldI2 ok rfl ?_
      refine s_iald ok rfl (by exact rfl) (by exact rfl) (by omega) (by omega) ?_
      rw [show (zv (zv g 9 m (h 31 m)) 10 m (h 32 m)) 33 (m : Int) = h 33 m from (congrFun (zv_other (by omega)) _).trans ((congrFun (zv_other (by omega)) _).trans (congrFun (f 33 (by omega) (by omega) (by omega)) m))]
      refine s_iast ok rfl (by exact rfl) (by exact rfl) (by omega) (by omega) (fun _ => by rcases hb m (by omega) (by omega) with e | e <;> rw [e] <;> first | exact Or.inl rfl | exact Or.inr rfl) ?_
      refine s_inc2 ok rfl rfl ?_
      refine s_goto ok rfl ?_
      refine ih (m + 1) _ ⟨fun q h1 h2 h3 => ?_, fun t t0 t1 => ?_⟩ (by omega) (by omega)
      · rw [zv_other h3, zv_other h2, zv_other h1]
        exact f q h1 h2 h3
      · by_cases e : t = m
        · subst e
          exact ⟨(congrFun (zv_other (by omega)) _).trans ((congrFun (zv_other (by omega)) _).trans zv_is), (congrFun (zv_other (by omega)) _).trans zv_is, zv_is⟩
        · obtain ⟨q1, q2, q3⟩ := ft t t0 (by omega)
          exact ⟨(congrFun (zv_other (by omega)) _).trans ((congrFun (zv_other (by omega)) _).trans ((zv_at e).trans q1)), (congrFun (zv_other (by omega)) _).trans ((zv_at e).trans q2), (zv_at e).trans q3⟩
theorem ct_become4_26 {E : zE} {d : Nat} {k : Nat → Nat × Nat} {h : Nat → Int → Int} {r : Nat → Int → Option Nat} {l : Nat → Nat → Int64} {n : Nat} {p : Int → Int} {w : Int} (hR : cR 26 27 28 29 30 31 32 33 34 35 k h r n p w) (hcn : cnP p w ≤ 8) (tr4 : p 0 ≤ 4) : zCT E (d + 1) M_X3_become [.ref 4, .ref 26] (zJ (k, h, r, l, n)) 0 0 (zUx (fun s => ∃ g r9, s = zJ (k, g, r9, l, n) ∧ (∀ q : Nat, q < 4 ∨ 13 < q → g q = h q) ∧ (∀ q, ¬ q = 5 → r9 q = r q) ∧ cR 4 5 6 7 8 9 10 11 12 13 k g r9 n p w)) := by
  have ok := ok_X3_become
  refine zCT_of pn_X3_become (Nat.le_of_ble_eq_true rfl) ?_
  show zGo _ _ _ _ _ _ 0 ([some (.ref 4), some (.ref 26), none], [], _, _, _)
  refine s_ldA0 ok rfl ?_
  refine s_ldA1 ok rfl ?_
  refine s_getJ 0 ok rfl rfl rfl rfl ?_
  refine s_putJ 0 ok rfl rfl rfl rfl (fun q => by cases q) ?_
  refine s_ci ok rfl ?_
  refine s_stI2 ok rfl rfl ?_
  refine lp_bec1_4_26 (E := E) (d := d) (k := k) (r := r) (l := l) (n := n) (h := h) hR.2.2.1 (fun g r9 ⟨f, f0, fr, ft⟩ u => ?_) 9 0 _ r ⟨fun q j h1 h2 h3 h4 => ?_, zv_is, fun q hq => rfl, fun t t0 t1 => by omega⟩ (by omega) (by omega)
  · refine s_ldA0 ok rfl ?_
    refine s_ldA1 ok rfl ?_
    refine s_getJ 5 ok rfl rfl rfl rfl ?_
    rw [show g 26 5 = h 26 5 from f 26 5 (by omega) (by omega) (by omega) (by omega)]
    refine s_putJ 5 ok rfl rfl rfl rfl (fun q => by cases q) ?_
    refine s_ci ok rfl ?_
    refine s_stI2 ok rfl rfl ?_
    refine lp_bec2_4_26 (E := E) (d := d) (k := k) (r := r9) (l := l) (n := n) (h := zv g 4 5 (h 26 5)) (fun j j0 j1 => ?_) (fun g2 ⟨e, et⟩ u2 => ?_) 5 0 _ ⟨fun q h1 h2 h3 => rfl, fun t t0 t1 => by omega⟩ (by omega) (by omega)
    · rw [zv_other (by omega), f 33 j (by omega) (by omega) (by omega) (by omega)]
      exact hR.2.2.2.2.1 j j0 j1
    · refine s_ldA1 ok rfl ?_
      refine s_getF ok rfl rfl rfl rfl ?_
      refine s_ci ok rfl ?_
      refine s_ldA0 ok rfl ?_
      refine s_getF ok rfl rfl rfl rfl ?_
      refine s_ci ok rfl ?_
      refine s_ldA0 ok rfl ?_
      refine s_getF ok rfl rfl rfl rfl ?_
      refine s_alen ok rfl rfl ?_
      rw [show ((4 : Nat) : Int) = (4 : Int) from rfl]
      refine s_copyJ ok rfl rfl (by exact rfl) (by exact rfl) (by omega) (by omega) (by omega) (by omega) (by omega) (by omega) (by omega) (by decide) ?_
      refine s_ldA1 ok rfl ?_
      refine s_getF ok rfl rfl rfl rfl ?_
      refine s_ci ok rfl ?_
      refine s_ldA0 ok rfl ?_
      refine s_getF ok rfl rfl rfl rfl ?_
      refine s_ci ok rfl ?_
      refine s_ldA0 ok rfl ?_
      refine s_getF ok rfl rfl rfl rfl ?_
      refine s_alen ok rfl rfl ?_
      rw [show ((4 : Nat) : Int) = (4 : Int) from rfl]
      refine s_copyJ ok rfl rfl (by exact rfl) (by exact rfl) (by omega) (by omega) (by omega) (by omega) (by omega) (by omega) (by omega) (by decide) ?_
      have hs : ∀ q j, ¬ q = 9 → ¬ q = 10 → ¬ q = 11 → ¬ q = 4 → ¬ q = 6 → ¬ q = 7 → ¬ q = 8 → g2 q j = h q j := fun q j h5 h6 h7 h0 h2 h3 h4 => by
        rw [e q h5 h6 h7, zv_other h0]
        exact f q j (fun z => h0 z.1) h2 h3 h4
      have hc : ∀ q j, ¬ q = 12 → ¬ q = 13 → zcp (zcp g2 34 12 0 0 4) 35 13 0 0 4 q j = g2 q j := fun q j h8 h9 => by
        unfold zcp
        rw [if_neg (fun z => h9 z.1), if_neg (fun z => h8 z.1)]
      refine s_retV ok rfl ⟨rfl, _, r9, rfl, fun q hq => funext fun j => ?_, fr, ?_⟩
      · rw [hc q j (by omega) (by omega)]
        exact hs q j (by omega) (by omega) (by omega) (by omega) (by omega) (by omega) (by omega)
      · obtain ⟨⟨c0, c5⟩, c1, c2, c3, c4, c6⟩ := hR
        have fw : fW k h (zcp (zcp g2 34 12 0 0 4) 35 13 0 0 4) := fW_fix fun q hq => funext fun j => by
          rw [hc q j (by omega) (by omega)]
          exact hs q j (by omega) (by omega) (by omega) (by omega) (by omega) (by omega) (by omega)
        have g0 : g2 4 0 = h 26 0 := by rw [e 4 (by omega) (by omega) (by omega), zv_at (by omega)]; exact f0
        have g5 : g2 4 5 = h 26 5 := by rw [e 4 (by omega) (by omega) (by omega), zv_is]
        have cn : cnP p w ≤ 8 := hcn
        refine ⟨⟨?_, ?_⟩, fun t t0 t1 => ?_, fun t t0 t1 => ?_, fun x x0 x1 => ?_, fun j j0 j1 => ?_, fun j j0 j1 => ?_⟩
        · rw [hc _ _ (by omega) (by omega), g0]; exact c0
        · rw [hc _ _ (by omega) (by omega), g5]; exact c5
        · obtain ⟨v, v1, v2, v3, v4, v5⟩ := c1 t t0 t1
          obtain ⟨q1, q2, q3, q4⟩ := ft t t0 (by omega)
          refine ⟨v, q1.trans v1, wk_fr v2 fw, ?_, ?_, ?_⟩
          · rw [hc _ _ (by omega) (by omega), e 6 (by omega) (by omega) (by omega), zv_other (by omega)]; exact q2.trans v3
          · rw [hc _ _ (by omega) (by omega), e 7 (by omega) (by omega) (by omega), zv_other (by omega)]; exact q3.trans v4
          · rw [hc _ _ (by omega) (by omega), e 8 (by omega) (by omega) (by omega), zv_other (by omega)]; exact q4.trans v5
        · obtain ⟨v, c, v1, v2, v3⟩ := c2 t t0 t1
          exact ⟨v, c, (ft t t0 t1).1.trans v1, v2, v3⟩
        · obtain ⟨q1, q2, q3⟩ := et x x0 (by omega)
          obtain ⟨w1, w2, w3⟩ := c3 x x0 x1
          have hz : ∀ q j, ¬ q = 4 → ¬ q = 6 → ¬ q = 7 → ¬ q = 8 → zv g 4 5 (h 26 5) q j = h q j := fun q j h0 h2 h3 h4 => by
            rw [zv_other h0]
            exact f q j (fun z => h0 z.1) h2 h3 h4
          refine ⟨?_, ?_, ?_⟩
          · rw [hc _ _ (by omega) (by omega), q1, hz _ _ (by omega) (by omega) (by omega) (by omega)]; exact w1
          · rw [hc _ _ (by omega) (by omega), q2, hz _ _ (by omega) (by omega) (by omega) (by omega)]; exact w2
          · rw [hc _ _ (by omega) (by omega), q3, hz _ _ (by omega) (by omega) (by omega) (by omega)]; exact w3
        · obtain ⟨q1, q2, q3⟩ := et j j0 j1
          rw [hc _ _ (by omega) (by omega), q3, zv_other (by omega), f 33 j (by omega) (by omega) (by omega) (by omega)]
          exact c4 j j0 j1
        · obtain ⟨w1, w2⟩ := c6 j j0 j1
          have z9 : zcp (zcp g2 34 12 0 0 4) 35 13 0 0 4 12 j = g2 34 j := by
            unfold zcp
            rw [if_neg (by omega), if_pos (by omega)]
            congr 1
            omega
          have z8 : zcp (zcp g2 34 12 0 0 4) 35 13 0 0 4 13 j = g2 35 j := by
            unfold zcp
            rw [if_pos (by omega), if_neg (by omega)]
            congr 1
            omega
          refine ⟨?_, ?_⟩
          · rw [z9, hs 34 j (by omega) (by omega) (by omega) (by omega) (by omega) (by omega) (by omega)]; exact w1
          · rw [z8, hs 35 j (by omega) (by omega) (by omega) (by omega) (by omega) (by omega) (by omega)]; exact w2
  · rw [zv_eq, if_neg h1]
