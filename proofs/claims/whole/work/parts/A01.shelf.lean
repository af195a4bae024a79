/-! the class: its shelves -/
theorem zopt (o : Option Nat) : o = none ∨ ∃ v, o = some v := by
  cases o with
  | none => exact Or.inl rfl
  | some v => exact Or.inr ⟨v, rfl⟩
theorem znn {o : Option Nat} {v : Nat} (a : o = none) (b : o = some v) : False := by
  rw [a] at b
  cases b
theorem ct_isShelf11 {E : zE} {d : Nat} {k : Nat → Nat × Nat} {h : Nat → Int → Int} {r : Nat → Int → Option Nat} {l : Nat → Nat → Int64} {n : Nat} {t : Int} (zt : zb t) : zCT E d M_X11_isShelf [.int (iI (t))] (zJ (k, h, r, l, n)) 0 0 (zV (.int (iI (if 0 ≤ t ∧ t < 8 then 1 else 0))) (zJ (k, h, r, l, n))) := by
  have ok := ok_X11_isShelf
  refine zCT_of pn_X11_isShelf (Nat.le_of_ble_eq_true rfl) ?_
  show zGo _ _ _ _ _ _ 0 ([some (.int (iI (t)))], [], _, _, _)
  refine s_ldI0 ok rfl ?_
  refine s_if_lt ok rfl zt (fun c1 => ?_) (fun c1 => ?_)
  · refine s_ci ok rfl ?_
    refine s_retZ ok rfl (by first | exact Or.inl rfl | exact Or.inr rfl) ⟨congrArg (fun z => some (Value.int (iI z))) (by first | exact (if_pos (by omega)).symm | exact (if_neg (by omega)).symm), rfl⟩
  · refine s_ldI0 ok rfl ?_
    refine s_ci ok rfl ?_
    refine s_c_ge ok rfl zt ⟨by omega, by omega⟩ (fun c7 => ?_) (fun c7 => ?_)
    · refine s_ci ok rfl ?_
      refine s_retZ ok rfl (by first | exact Or.inl rfl | exact Or.inr rfl) ⟨congrArg (fun z => some (Value.int (iI z))) (by first | exact (if_pos (by omega)).symm | exact (if_neg (by omega)).symm), rfl⟩
    · refine s_ci ok rfl ?_
      refine s_goto ok rfl ?_
      refine s_retZ ok rfl (by first | exact Or.inl rfl | exact Or.inr rfl) ⟨congrArg (fun z => some (Value.int (iI z))) (by first | exact (if_pos (by omega)).symm | exact (if_neg (by omega)).symm), rfl⟩
theorem ct_isEmpty11 {E : zE} {d : Nat} {k : Nat → Nat × Nat} {h : Nat → Int → Int} {r : Nat → Int → Option Nat} {l : Nat → Nat → Int64} {n : Nat} {t : Int} (t0 : 0 ≤ t) (t1 : t < 8) : zCT E d M_X11_isEmpty [.ref 3, .int (iI (t))] (zJ (k, h, r, l, n)) 0 0 (zV (.int (iI (if r 55 t = none ∧ r 56 t = none then 1 else 0))) (zJ (k, h, r, l, n))) := by
  have ok := ok_X11_isEmpty
  refine zCT_of pn_X11_isEmpty (Nat.le_of_ble_eq_true rfl) ?_
  show zGo _ _ _ _ _ _ 0 ([some (.ref 3), some (.int (iI (t)))], [], _, _, _)
  rcases zopt (r 55 t) with e5 | ⟨v5, e5⟩ <;> rcases zopt (r 56 t) with e6 | ⟨v6, e6⟩
  · skip
    refine s_ldA0 ok rfl ?_
    refine s_getF ok rfl rfl rfl rfl ?_
    refine s_ldI1 ok rfl ?_
    refine s_aaldN ok rfl (by exact rfl) (by exact rfl) (by exact rfl) (by omega) (by omega) e5 ?_
    refine s_nullN ok rfl ?_
    refine s_ldA0 ok rfl ?_
    refine s_getF ok rfl rfl rfl rfl ?_
    refine s_ldI1 ok rfl ?_
    refine s_aaldN ok rfl (by exact rfl) (by exact rfl) (by exact rfl) (by omega) (by omega) e6 ?_
    refine s_nullN ok rfl ?_
    refine s_ci ok rfl ?_
    refine s_goto ok rfl ?_
    refine s_retZ ok rfl (by first | exact Or.inl rfl | exact Or.inr rfl) ⟨congrArg (fun z => some (Value.int (iI z))) (by first | exact (if_pos ⟨e5, e6⟩).symm | exact (if_neg (fun q => znn q.1 e5)).symm | exact (if_neg (fun q => znn q.2 e6)).symm), rfl⟩
  · skip
    refine s_ldA0 ok rfl ?_
    refine s_getF ok rfl rfl rfl rfl ?_
    refine s_ldI1 ok rfl ?_
    refine s_aaldN ok rfl (by exact rfl) (by exact rfl) (by exact rfl) (by omega) (by omega) e5 ?_
    refine s_nullN ok rfl ?_
    refine s_ldA0 ok rfl ?_
    refine s_getF ok rfl rfl rfl rfl ?_
    refine s_ldI1 ok rfl ?_
    refine s_aald ok rfl (by exact rfl) (by exact rfl) (by exact rfl) (by omega) (by omega) e6 ?_
    refine s_nullR ok rfl ?_
    refine s_ci ok rfl ?_
    refine s_retZ ok rfl (by first | exact Or.inl rfl | exact Or.inr rfl) ⟨congrArg (fun z => some (Value.int (iI z))) (by first | exact (if_pos ⟨e5, e6⟩).symm | exact (if_neg (fun q => znn q.1 e5)).symm | exact (if_neg (fun q => znn q.2 e6)).symm), rfl⟩
  · skip
    refine s_ldA0 ok rfl ?_
    refine s_getF ok rfl rfl rfl rfl ?_
    refine s_ldI1 ok rfl ?_
    refine s_aald ok rfl (by exact rfl) (by exact rfl) (by exact rfl) (by omega) (by omega) e5 ?_
    refine s_nullR ok rfl ?_
    refine s_ci ok rfl ?_
    refine s_retZ ok rfl (by first | exact Or.inl rfl | exact Or.inr rfl) ⟨congrArg (fun z => some (Value.int (iI z))) (by first | exact (if_pos ⟨e5, e6⟩).symm | exact (if_neg (fun q => znn q.1 e5)).symm | exact (if_neg (fun q => znn q.2 e6)).symm), rfl⟩
  · skip
    refine s_ldA0 ok rfl ?_
    refine s_getF ok rfl rfl rfl rfl ?_
    refine s_ldI1 ok rfl ?_
    refine s_aald ok rfl (by exact rfl) (by exact rfl) (by exact rfl) (by omega) (by omega) e5 ?_
    refine s_nullR ok rfl ?_
    refine s_ci ok rfl ?_
    refine s_retZ ok rfl (by first | exact Or.inl rfl | exact Or.inr rfl) ⟨congrArg (fun z => some (Value.int (iI z))) (by first | exact (if_pos ⟨e5, e6⟩).symm | exact (if_neg (fun q => znn q.1 e5)).symm | exact (if_neg (fun q => znn q.2 e6)).symm), rfl⟩
theorem ct_refusalOfRow {E : zE} {d : Nat} {k : Nat → Nat × Nat} {h : Nat → Int → Int} {r : Nat → Int → Option Nat} {l : Nat → Nat → Int64} {n : Nat} {t : Int} (zt : zb t) : zCT E (d + 1) M_X11_refusalOfRow [.ref 3, .int (iI (t))] (zJ (k, h, r, l, n)) 0 0 (zV (.int (iI (if ¬ (0 ≤ t ∧ t < 8) then -1 else if r 55 t = none ∧ r 56 t = none then -11 else if r 56 t = none then -12 else 0))) (zJ (k, h, r, l, n))) := by
  have ok := ok_X11_refusalOfRow
  refine zCT_of pn_X11_refusalOfRow (Nat.le_of_ble_eq_true rfl) ?_
  show zGo _ _ _ _ _ _ 0 ([some (.ref 3), some (.int (iI (t)))], [], _, _, _)
  rcases zopt (r 56 t) with e6 | ⟨v6, e6⟩
  · skip
    refine s_ldI1 ok rfl ?_
    refine s_callS ok rfl rfl rfl rfl (ct_isShelf11 zt) ?_
    refine s_if_eq ok rfl zif01 (fun c4 => ?_) (fun c4 => ?_)
    · refine s_ci ok rfl ?_
      refine s_retI ok rfl ⟨congrArg (fun z => some (Value.int (iI z))) (by first | exact (if_pos (zif_f c4)).symm | (rw [if_neg (fun q => q (zif_t c4))]; first | exact (if_pos (zif_t c14)).symm | (rw [if_neg (zif_f c14)]; first | exact (if_pos e6).symm | exact (if_neg (fun q => znn q e6)).symm))), rfl⟩
    · have yt := zif_t c4
      refine s_ldA0 ok rfl ?_
      refine s_ldI1 ok rfl ?_
      refine s_callV ok rfl rfl rfl rfl rfl rfl (ct_isEmpty11 yt.1 yt.2) ?_
      refine s_if_eq ok rfl zif01 (fun c14 => ?_) (fun c14 => ?_)
      · refine s_ldA0 ok rfl ?_
        refine s_getF ok rfl rfl rfl rfl ?_
        refine s_ldI1 ok rfl ?_
        refine s_aaldN ok rfl (by exact rfl) (by exact rfl) (by exact rfl) (by omega) (by omega) e6 ?_
        refine s_nullN ok rfl ?_
        refine s_ci ok rfl ?_
        refine s_goto ok rfl ?_
        refine s_retI ok rfl ⟨congrArg (fun z => some (Value.int (iI z))) (by first | exact (if_pos (zif_f c4)).symm | (rw [if_neg (fun q => q (zif_t c4))]; first | exact (if_pos (zif_t c14)).symm | (rw [if_neg (zif_f c14)]; first | exact (if_pos e6).symm | exact (if_neg (fun q => znn q e6)).symm))), rfl⟩
      · refine s_ci ok rfl ?_
        refine s_retI ok rfl ⟨congrArg (fun z => some (Value.int (iI z))) (by first | exact (if_pos (zif_f c4)).symm | (rw [if_neg (fun q => q (zif_t c4))]; first | exact (if_pos (zif_t c14)).symm | (rw [if_neg (zif_f c14)]; first | exact (if_pos e6).symm | exact (if_neg (fun q => znn q e6)).symm))), rfl⟩
  · skip
    refine s_ldI1 ok rfl ?_
    refine s_callS ok rfl rfl rfl rfl (ct_isShelf11 zt) ?_
    refine s_if_eq ok rfl zif01 (fun c4 => ?_) (fun c4 => ?_)
    · refine s_ci ok rfl ?_
      refine s_retI ok rfl ⟨congrArg (fun z => some (Value.int (iI z))) (by first | exact (if_pos (zif_f c4)).symm | (rw [if_neg (fun q => q (zif_t c4))]; first | exact (if_pos (zif_t c14)).symm | (rw [if_neg (zif_f c14)]; first | exact (if_pos e6).symm | exact (if_neg (fun q => znn q e6)).symm))), rfl⟩
    · have yt := zif_t c4
      refine s_ldA0 ok rfl ?_
      refine s_ldI1 ok rfl ?_
      refine s_callV ok rfl rfl rfl rfl rfl rfl (ct_isEmpty11 yt.1 yt.2) ?_
      refine s_if_eq ok rfl zif01 (fun c14 => ?_) (fun c14 => ?_)
      · refine s_ldA0 ok rfl ?_
        refine s_getF ok rfl rfl rfl rfl ?_
        refine s_ldI1 ok rfl ?_
        refine s_aald ok rfl (by exact rfl) (by exact rfl) (by exact rfl) (by omega) (by omega) e6 ?_
        refine s_nullR ok rfl ?_
        refine s_ci ok rfl ?_
        refine s_retI ok rfl ⟨congrArg (fun z => some (Value.int (iI z))) (by first | exact (if_pos (zif_f c4)).symm | (rw [if_neg (fun q => q (zif_t c4))]; first | exact (if_pos (zif_t c14)).symm | (rw [if_neg (zif_f c14)]; first | exact (if_pos e6).symm | exact (if_neg (fun q => znn q e6)).symm))), rfl⟩
      · refine s_ci ok rfl ?_
        refine s_retI ok rfl ⟨congrArg (fun z => some (Value.int (iI z))) (by first | exact (if_pos (zif_f c4)).symm | (rw [if_neg (fun q => q (zif_t c4))]; first | exact (if_pos (zif_t c14)).symm | (rw [if_neg (zif_f c14)]; first | exact (if_pos e6).symm | exact (if_neg (fun q => znn q e6)).symm))), rfl⟩
theorem ct_refusalOfOne {E : zE} {d : Nat} {k : Nat → Nat × Nat} {h : Nat → Int → Int} {r : Nat → Int → Option Nat} {l : Nat → Nat → Int64} {n : Nat} {t : Int} (zt : zb t) : zCT E (d + 1) M_X11_refusalOfOne [.ref 3, .int (iI (t))] (zJ (k, h, r, l, n)) 0 0 (zV (.int (iI (if ¬ (0 ≤ t ∧ t < 8) then -1 else if r 55 t = none ∧ r 56 t = none then -11 else if r 55 t = none then -12 else 0))) (zJ (k, h, r, l, n))) := by
  have ok := ok_X11_refusalOfOne
  refine zCT_of pn_X11_refusalOfOne (Nat.le_of_ble_eq_true rfl) ?_
  show zGo _ _ _ _ _ _ 0 ([some (.ref 3), some (.int (iI (t)))], [], _, _, _)
  rcases zopt (r 55 t) with e6 | ⟨v6, e6⟩
  · skip
    refine s_ldI1 ok rfl ?_
    refine s_callS ok rfl rfl rfl rfl (ct_isShelf11 zt) ?_
    refine s_if_eq ok rfl zif01 (fun c4 => ?_) (fun c4 => ?_)
    · refine s_ci ok rfl ?_
      refine s_retI ok rfl ⟨congrArg (fun z => some (Value.int (iI z))) (by first | exact (if_pos (zif_f c4)).symm | (rw [if_neg (fun q => q (zif_t c4))]; first | exact (if_pos (zif_t c14)).symm | (rw [if_neg (zif_f c14)]; first | exact (if_pos e6).symm | exact (if_neg (fun q => znn q e6)).symm))), rfl⟩
    · have yt := zif_t c4
      refine s_ldA0 ok rfl ?_
      refine s_ldI1 ok rfl ?_
      refine s_callV ok rfl rfl rfl rfl rfl rfl (ct_isEmpty11 yt.1 yt.2) ?_
      refine s_if_eq ok rfl zif01 (fun c14 => ?_) (fun c14 => ?_)
      · refine s_ldA0 ok rfl ?_
        refine s_getF ok rfl rfl rfl rfl ?_
        refine s_ldI1 ok rfl ?_
        refine s_aaldN ok rfl (by exact rfl) (by exact rfl) (by exact rfl) (by omega) (by omega) e6 ?_
        refine s_nullN ok rfl ?_
        refine s_ci ok rfl ?_
        refine s_goto ok rfl ?_
        refine s_retI ok rfl ⟨congrArg (fun z => some (Value.int (iI z))) (by first | exact (if_pos (zif_f c4)).symm | (rw [if_neg (fun q => q (zif_t c4))]; first | exact (if_pos (zif_t c14)).symm | (rw [if_neg (zif_f c14)]; first | exact (if_pos e6).symm | exact (if_neg (fun q => znn q e6)).symm))), rfl⟩
      · refine s_ci ok rfl ?_
        refine s_retI ok rfl ⟨congrArg (fun z => some (Value.int (iI z))) (by first | exact (if_pos (zif_f c4)).symm | (rw [if_neg (fun q => q (zif_t c4))]; first | exact (if_pos (zif_t c14)).symm | (rw [if_neg (zif_f c14)]; first | exact (if_pos e6).symm | exact (if_neg (fun q => znn q e6)).symm))), rfl⟩
  · skip
    refine s_ldI1 ok rfl ?_
    refine s_callS ok rfl rfl rfl rfl (ct_isShelf11 zt) ?_
    refine s_if_eq ok rfl zif01 (fun c4 => ?_) (fun c4 => ?_)
    · refine s_ci ok rfl ?_
      refine s_retI ok rfl ⟨congrArg (fun z => some (Value.int (iI z))) (by first | exact (if_pos (zif_f c4)).symm | (rw [if_neg (fun q => q (zif_t c4))]; first | exact (if_pos (zif_t c14)).symm | (rw [if_neg (zif_f c14)]; first | exact (if_pos e6).symm | exact (if_neg (fun q => znn q e6)).symm))), rfl⟩
    · have yt := zif_t c4
      refine s_ldA0 ok rfl ?_
      refine s_ldI1 ok rfl ?_
      refine s_callV ok rfl rfl rfl rfl rfl rfl (ct_isEmpty11 yt.1 yt.2) ?_
      refine s_if_eq ok rfl zif01 (fun c14 => ?_) (fun c14 => ?_)
      · refine s_ldA0 ok rfl ?_
        refine s_getF ok rfl rfl rfl rfl ?_
        refine s_ldI1 ok rfl ?_
        refine s_aald ok rfl (by exact rfl) (by exact rfl) (by exact rfl) (by omega) (by omega) e6 ?_
        refine s_nullR ok rfl ?_
        refine s_ci ok rfl ?_
        refine s_retI ok rfl ⟨congrArg (fun z => some (Value.int (iI z))) (by first | exact (if_pos (zif_f c4)).symm | (rw [if_neg (fun q => q (zif_t c4))]; first | exact (if_pos (zif_t c14)).symm | (rw [if_neg (zif_f c14)]; first | exact (if_pos e6).symm | exact (if_neg (fun q => znn q e6)).symm))), rfl⟩
      · refine s_ci ok rfl ?_
        refine s_retI ok rfl ⟨congrArg (fun z => some (Value.int (iI z))) (by first | exact (if_pos (zif_f c4)).symm | (rw [if_neg (fun q => q (zif_t c4))]; first | exact (if_pos (zif_t c14)).symm | (rw [if_neg (zif_f c14)]; first | exact (if_pos e6).symm | exact (if_neg (fun q => znn q e6)).symm))), rfl⟩
/-- the shelf t holds what the reference's says -/
def cH1 (k : Nat → Nat × Nat) (h : Nat → Int → Int) (r : Nat → Int → Option Nat) (n : Nat) (t : Int) : Prop :=
  (h 80 t = 0 ∧ r 55 t = none ∧ r 56 t = none) ∨
  (h 80 t = 1 ∧ (∃ v, r 55 t = some v ∧ wk k h v (h 81 t) (h 82 t) ∧ 87 ≤ v ∧ v < n) ∧ r 56 t = none) ∨
  (h 80 t = 2 ∧ r 55 t = none ∧ ∃ w, r 56 t = some w ∧ rw_ k h r w (w + 1) (h 84 t).toNat (h 83 t) ∧ (87 ≤ w ∧ w + 1 < n) ∧ (0 ≤ h 84 t ∧ h 84 t ≤ 100) ∧ (∀ j, zb (h (w + 1) j)) ∧ (∀ j, 0 ≤ j → j < h 84 t → h (w + 1) j = h 85 (100 * t + j)) ∧ (h 83 t = 0 → ∀ j, 0 ≤ j → j < h 84 t → -128 ≤ h 85 (100 * t + j) ∧ h 85 (100 * t + j) ≤ 127))
def cSh (k : Nat → Nat × Nat) (h : Nat → Int → Int) (r : Nat → Int → Option Nat) (n : Nat) : Prop := (∀ t : Int, 0 ≤ t → t < 8 → cH1 k h r n t) ∧ ∀ (t u : Int) (w : Nat), 0 ≤ t → t < 8 → 0 ≤ u → u < 8 → r 56 t = some w → r 56 u = some w → t = u
theorem cSh_row {k : Nat → Nat × Nat} {h : Nat → Int → Int} {r : Nat → Int → Option Nat} {n : Nat} (c : cSh k h r n) {t : Int} : (if ¬ (0 ≤ t ∧ t < 8) then (-1 : Int) else if r 55 t = none ∧ r 56 t = none then -11 else if r 56 t = none then -12 else 0) = sWR h t (-1) := by
  unfold sWR
  by_cases a : 0 ≤ t ∧ t < 8
  · have na : ¬ ¬ (0 ≤ t ∧ t < 8) := fun q => q a
    rw [if_neg na, if_neg na]
    rcases c.1 t a.1 a.2 with ⟨z1, z2, z3⟩ | ⟨z1, ⟨v, z2, -⟩, z3⟩ | ⟨z1, z2, w, z3, -⟩
    · rw [if_pos ⟨z2, z3⟩, if_pos z1]
    · have n5 : ¬ (r 55 t = none ∧ r 56 t = none) := fun q => znn q.1 z2
      have n1 : ¬ h 80 t = 0 := by omega
      have n2 : ¬ h 80 t = 2 := by omega
      rw [if_neg n5, if_pos z3, if_neg n1, if_pos n2]
    · have n5 : ¬ (r 55 t = none ∧ r 56 t = none) := fun q => znn q.2 z3
      have n6 : ¬ r 56 t = none := fun q => znn q z3
      have n1 : ¬ h 80 t = 0 := by omega
      have n2 : ¬ ¬ h 80 t = 2 := by omega
      have n3 : ¬ (0 ≤ (-1 : Int) ∧ ¬ h 83 t = -1) := by omega
      rw [if_neg n5, if_neg n6, if_neg n1, if_neg n2, if_neg n3]
  · rw [if_pos a, if_pos a]
theorem cSh_one {k : Nat → Nat × Nat} {h : Nat → Int → Int} {r : Nat → Int → Option Nat} {n : Nat} (c : cSh k h r n) {t : Int} : (if ¬ (0 ≤ t ∧ t < 8) then (-1 : Int) else if r 55 t = none ∧ r 56 t = none then -11 else if r 55 t = none then -12 else 0) = sWK h t := by
  unfold sWK
  by_cases a : 0 ≤ t ∧ t < 8
  · have na : ¬ ¬ (0 ≤ t ∧ t < 8) := fun q => q a
    rw [if_neg na, if_neg na]
    rcases c.1 t a.1 a.2 with ⟨z1, z2, z3⟩ | ⟨z1, ⟨v, z2, -⟩, z3⟩ | ⟨z1, z2, w, z3, -⟩
    · rw [if_pos ⟨z2, z3⟩, if_pos z1]
    · have n5 : ¬ (r 55 t = none ∧ r 56 t = none) := fun q => znn q.1 z2
      have n6 : ¬ r 55 t = none := fun q => znn q z2
      have n1 : ¬ h 80 t = 0 := by omega
      have n2 : ¬ h 80 t = 2 := by omega
      rw [if_neg n5, if_neg n6, if_neg n1, if_neg n2]
    · have n5 : ¬ (r 55 t = none ∧ r 56 t = none) := fun q => znn q.2 z3
      have n1 : ¬ h 80 t = 0 := by omega
      rw [if_neg n5, if_pos z2, if_neg n1, if_pos z1]
  · rw [if_pos a, if_pos a]
/-- there is a row -/
theorem cSh_w {k : Nat → Nat × Nat} {h : Nat → Int → Int} {r : Nat → Int → Option Nat} {n : Nat} (c : cSh k h r n) {t : Int} (e : sWR h t (-1) = 0) : (0 ≤ t ∧ t < 8) ∧ h 80 t = 2 ∧ r 55 t = none ∧ ∃ w, r 56 t = some w ∧ rw_ k h r w (w + 1) (h 84 t).toNat (h 83 t) ∧ (87 ≤ w ∧ w + 1 < n) ∧ (0 ≤ h 84 t ∧ h 84 t ≤ 100) ∧ (∀ j, zb (h (w + 1) j)) ∧ (∀ j, 0 ≤ j → j < h 84 t → h (w + 1) j = h 85 (100 * t + j)) ∧ (h 83 t = 0 → ∀ j, 0 ≤ j → j < h 84 t → -128 ≤ h 85 (100 * t + j) ∧ h 85 (100 * t + j) ≤ 127) := by
  unfold sWR at e
  have a : 0 ≤ t ∧ t < 8 := by
    by_cases a : 0 ≤ t ∧ t < 8
    · exact a
    · rw [if_pos a] at e
      omega
  have na : ¬ ¬ (0 ≤ t ∧ t < 8) := fun q => q a
  rw [if_neg na] at e
  refine ⟨a, ?_⟩
  rcases c.1 t a.1 a.2 with ⟨z1, -⟩ | ⟨z1, -⟩ | z
  · rw [if_pos z1] at e
    omega
  · rw [if_neg (by omega), if_pos (by omega)] at e
    omega
  · exact z
/-- there is a traveller -/
theorem cSh_k {k : Nat → Nat × Nat} {h : Nat → Int → Int} {r : Nat → Int → Option Nat} {n : Nat} (c : cSh k h r n) {t : Int} (e : sWK h t = 0) : (0 ≤ t ∧ t < 8) ∧ h 80 t = 1 ∧ (∃ v, r 55 t = some v ∧ wk k h v (h 81 t) (h 82 t) ∧ 87 ≤ v ∧ v < n) ∧ r 56 t = none := by
  unfold sWK at e
  have a : 0 ≤ t ∧ t < 8 := by
    by_cases a : 0 ≤ t ∧ t < 8
    · exact a
    · rw [if_pos a] at e
      omega
  have na : ¬ ¬ (0 ≤ t ∧ t < 8) := fun q => q a
  rw [if_neg na] at e
  refine ⟨a, ?_⟩
  rcases c.1 t a.1 a.2 with ⟨z1, -⟩ | z | ⟨z1, -⟩
  · rw [if_pos z1] at e
    omega
  · exact z
  · rw [if_neg (by omega), if_pos z1] at e
    omega
/-- what a shelf's picture hangs on -/
theorem cSh_fr {k k' : Nat → Nat × Nat} {h g : Nat → Int → Int} {r r' : Nat → Int → Option Nat} {n n' : Nat} (c : cSh k h r n) (ek : ∀ a, 87 ≤ a → a < n → k' a = k a) (eh : ∀ a, 87 ≤ a → a < n → g a = h a) (er : ∀ a, 87 ≤ a → a < n → r' a = r a) (e5 : r' 55 = r 55) (e6 : r' 56 = r 56) (nn : n ≤ n') (f : ∀ a, 79 < a → a < 86 → g a = h a) : cSh k' g r' n' := by
  have kf : ∀ a, 87 ≤ a → a < n → zkF k' a = zkF k a := fun a h0 h1 => zkF_eq (ek a h0 h1)
  refine ⟨fun t t0 t1 => ?_, fun t u w t0 t1 u0 u1 a b => c.2 t u w t0 t1 u0 u1 (by rw [← e6]; exact a) (by rw [← e6]; exact b)⟩
  unfold cH1
  rw [e5, e6, f 80 (by omega) (by omega), f 81 (by omega) (by omega), f 82 (by omega) (by omega), f 83 (by omega) (by omega), f 84 (by omega) (by omega), f 85 (by omega) (by omega)]
  rcases c.1 t t0 t1 with z | ⟨z1, ⟨v, z2, z3, z4, z5⟩, z6⟩ | ⟨z1, z2, w, z3, ⟨y1, y2, y3, y4, y5⟩, ⟨z5, z6⟩, z7, z8, z9, z10⟩
  · exact Or.inl z
  · exact Or.inr (Or.inl ⟨z1, ⟨v, z2, wk_up z3 (ek v z4 z5) (eh v z4 z5), z4, by omega⟩, z6⟩)
  · refine Or.inr (Or.inr ⟨z1, z2, w, z3, ⟨(kf w (by omega) (by omega)).trans y1, by rw [eh w (by omega) (by omega)]; exact y2, ?_, (kf (w + 1) (by omega) (by omega)).trans y4, y5⟩, ⟨z5, by omega⟩, z7, by rw [eh (w + 1) (by omega) (by omega)]; exact z8, by rw [eh (w + 1) (by omega) (by omega)]; exact z9, z10⟩)
    have : zrF r' w 1 = zrF r w 1 := by
      unfold zrF
      rw [er w (by omega) (by omega)]
    exact this.trans y3
