/-! the trip: one is asked -/
theorem zif10 {c : Prop} [Decidable c] : zb (if c then 0 else 1) := by split <;> exact ⟨by omega, by omega⟩
theorem ct_arrives9 {E : zE} {d : Nat} {k : Nat → Nat × Nat} {h : Nat → Int → Int} {r : Nat → Int → Option Nat} {l : Nat → Nat → Int64} {n : Nat} {t : Int} (t0 : 0 ≤ t) (t1 : t < 8) (z : zb (h 44 t)) : zCT E d M_X9_arrives [.ref 37, .int (iI (t))] (zJ (k, h, r, l, n)) 0 0 (zV (.int (iI (if h 44 t = -1 then 0 else 1))) (zJ (k, h, r, l, n))) := by
  have ok := ok_X9_arrives
  refine zCT_of pn_X9_arrives (Nat.le_of_ble_eq_true rfl) ?_
  show zGo _ _ _ _ _ _ 0 ([some (.ref 37), some (.int (iI (t)))], [], _, _, _)
  refine s_ldA0 ok rfl ?_
  refine s_getF ok rfl rfl rfl rfl ?_
  refine s_ldI1 ok rfl ?_
  refine s_iald ok rfl (by exact rfl) (by exact rfl) (by omega) (by omega) ?_
  refine s_ci ok rfl ?_
  refine s_c_eq ok rfl z ⟨by omega, by omega⟩ (fun c7 => ?_) (fun c7 => ?_)
  · refine s_ci ok rfl ?_
    refine s_retZ ok rfl (by first | exact Or.inl rfl | exact Or.inr rfl) ⟨congrArg (fun z => some (Value.int (iI z))) (by first | exact (if_pos (by omega)).symm | exact (if_neg (by omega)).symm), rfl⟩
  · refine s_ci ok rfl ?_
    refine s_goto ok rfl ?_
    refine s_retZ ok rfl (by first | exact Or.inl rfl | exact Or.inr rfl) ⟨congrArg (fun z => some (Value.int (iI z))) (by first | exact (if_pos (by omega)).symm | exact (if_neg (by omega)).symm), rfl⟩
theorem ct_may4 {E : zE} {d : Nat} {k : Nat → Nat × Nat} {h : Nat → Int → Int} {r : Nat → Int → Option Nat} {l : Nat → Nat → Int64} {n : Nat} {p : Int → Int} {x t : Int} (x0 : 0 ≤ x) (x1 : x < 12) (t0 : 0 ≤ t) (t1 : t < 8) (m0 : 0 ≤ h 48 t) (m1 : h 48 t < 4096) (ec : h 11 (x / 3) = zbt (p 1) (x / 3)) : zCT E d M_X9_may [.ref 37, .ref 4, .int (iI (x)), .int (iI (t))] (zJ (k, h, r, l, n)) 0 0 (zV (.int (iI (if ((x % 3 = 0 ∧ zbt (p 1) (x / 3) = 0) ∨ (0 < x % 3 ∧ zbt (h 48 t) (x - 1) = 1)) then 1 else 0))) (zJ (k, h, r, l, n))) := by
  have ok := ok_X9_may
  refine zCT_of pn_X9_may (Nat.le_of_ble_eq_true rfl) ?_
  show zGo _ _ _ _ _ _ 0 ([some (.ref 37), some (.ref 4), some (.int (iI (x))), some (.int (iI (t)))], [], _, _, _)
  have q1 := zbt_01 (p 1) (x / 3)
  have q2 := zbt_01 (h 48 t) (x - 1)
  refine s_ldI2 ok rfl ?_
  refine s_ci ok rfl ?_
  refine s_rem ok rfl (by first | exact hb _ _ | exact ⟨by omega, by omega⟩) (by first | exact hb _ _ | exact ⟨by omega, by omega⟩) (by omega) (by omega) ?_
  refine s_if_eq ok rfl (by first | exact hb _ _ | exact ⟨by omega, by omega⟩) (fun c3 => ?_) (fun c3 => ?_)
  · refine s_ldA1 ok rfl ?_
    refine s_getF ok rfl rfl rfl rfl ?_
    refine s_ldI2 ok rfl ?_
    refine s_ci ok rfl ?_
    refine s_div ok rfl (by first | exact hb _ _ | exact ⟨by omega, by omega⟩) (by first | exact hb _ _ | exact ⟨by omega, by omega⟩) (by omega) (by omega) ?_
    refine s_iald ok rfl (by exact rfl) (by exact rfl) (by omega) (by omega) ?_
    refine s_if_eq ok rfl (by first | exact hb _ _ | exact ⟨by omega, by omega⟩) (fun c14 => ?_) (fun c14 => ?_)
    · refine s_ci ok rfl ?_
      refine s_goto ok rfl ?_
      refine s_retZ ok rfl (by first | exact Or.inl rfl | exact Or.inr rfl) ⟨congrArg (fun z => some (Value.int (iI z))) (by first | exact (if_pos (by omega)).symm | exact (if_neg (by omega)).symm), rfl⟩
    · refine s_ci ok rfl ?_
      refine s_retZ ok rfl (by first | exact Or.inl rfl | exact Or.inr rfl) ⟨congrArg (fun z => some (Value.int (iI z))) (by first | exact (if_pos (by omega)).symm | exact (if_neg (by omega)).symm), rfl⟩
  · refine s_ldA0 ok rfl ?_
    refine s_getF ok rfl rfl rfl rfl ?_
    refine s_ldI3 ok rfl ?_
    refine s_iald ok rfl (by exact rfl) (by exact rfl) (by omega) (by omega) ?_
    refine s_ldI2 ok rfl ?_
    refine s_ci ok rfl ?_
    refine s_sub ok rfl ?_
    refine s_bin ok rfl ((zshr m0 m1 (by omega) (by omega)).1) ?_
    refine s_ci ok rfl ?_
    refine s_bin ok rfl ((zshr m0 m1 (by omega) (by omega)).2) ?_
    refine s_ci ok rfl ?_
    refine s_c_eq ok rfl (by first | exact hb _ _ | exact ⟨by omega, by omega⟩) (by first | exact hb _ _ | exact ⟨by omega, by omega⟩) (fun c36 => ?_) (fun c36 => ?_)
    · refine s_ci ok rfl ?_
      refine s_goto ok rfl ?_
      refine s_retZ ok rfl (by first | exact Or.inl rfl | exact Or.inr rfl) ⟨congrArg (fun z => some (Value.int (iI z))) (by first | exact (if_pos (by omega)).symm | exact (if_neg (by omega)).symm), rfl⟩
    · refine s_ci ok rfl ?_
      refine s_retZ ok rfl (by first | exact Or.inl rfl | exact Or.inr rfl) ⟨congrArg (fun z => some (Value.int (iI z))) (by first | exact (if_pos (by omega)).symm | exact (if_neg (by omega)).symm), rfl⟩
theorem ct_may15 {E : zE} {d : Nat} {k : Nat → Nat × Nat} {h : Nat → Int → Int} {r : Nat → Int → Option Nat} {l : Nat → Nat → Int64} {n : Nat} {p : Int → Int} {x t : Int} (x0 : 0 ≤ x) (x1 : x < 12) (t0 : 0 ≤ t) (t1 : t < 8) (m0 : 0 ≤ h 48 t) (m1 : h 48 t < 4096) (ec : h 22 (x / 3) = zbt (p 1) (x / 3)) : zCT E d M_X9_may [.ref 37, .ref 15, .int (iI (x)), .int (iI (t))] (zJ (k, h, r, l, n)) 0 0 (zV (.int (iI (if ((x % 3 = 0 ∧ zbt (p 1) (x / 3) = 0) ∨ (0 < x % 3 ∧ zbt (h 48 t) (x - 1) = 1)) then 1 else 0))) (zJ (k, h, r, l, n))) := by
  have ok := ok_X9_may
  refine zCT_of pn_X9_may (Nat.le_of_ble_eq_true rfl) ?_
  show zGo _ _ _ _ _ _ 0 ([some (.ref 37), some (.ref 15), some (.int (iI (x))), some (.int (iI (t)))], [], _, _, _)
  have q1 := zbt_01 (p 1) (x / 3)
  have q2 := zbt_01 (h 48 t) (x - 1)
  refine s_ldI2 ok rfl ?_
  refine s_ci ok rfl ?_
  refine s_rem ok rfl (by first | exact hb _ _ | exact ⟨by omega, by omega⟩) (by first | exact hb _ _ | exact ⟨by omega, by omega⟩) (by omega) (by omega) ?_
  refine s_if_eq ok rfl (by first | exact hb _ _ | exact ⟨by omega, by omega⟩) (fun c3 => ?_) (fun c3 => ?_)
  · refine s_ldA1 ok rfl ?_
    refine s_getF ok rfl rfl rfl rfl ?_
    refine s_ldI2 ok rfl ?_
    refine s_ci ok rfl ?_
    refine s_div ok rfl (by first | exact hb _ _ | exact ⟨by omega, by omega⟩) (by first | exact hb _ _ | exact ⟨by omega, by omega⟩) (by omega) (by omega) ?_
    refine s_iald ok rfl (by exact rfl) (by exact rfl) (by omega) (by omega) ?_
    refine s_if_eq ok rfl (by first | exact hb _ _ | exact ⟨by omega, by omega⟩) (fun c14 => ?_) (fun c14 => ?_)
    · refine s_ci ok rfl ?_
      refine s_goto ok rfl ?_
      refine s_retZ ok rfl (by first | exact Or.inl rfl | exact Or.inr rfl) ⟨congrArg (fun z => some (Value.int (iI z))) (by first | exact (if_pos (by omega)).symm | exact (if_neg (by omega)).symm), rfl⟩
    · refine s_ci ok rfl ?_
      refine s_retZ ok rfl (by first | exact Or.inl rfl | exact Or.inr rfl) ⟨congrArg (fun z => some (Value.int (iI z))) (by first | exact (if_pos (by omega)).symm | exact (if_neg (by omega)).symm), rfl⟩
  · refine s_ldA0 ok rfl ?_
    refine s_getF ok rfl rfl rfl rfl ?_
    refine s_ldI3 ok rfl ?_
    refine s_iald ok rfl (by exact rfl) (by exact rfl) (by omega) (by omega) ?_
    refine s_ldI2 ok rfl ?_
    refine s_ci ok rfl ?_
    refine s_sub ok rfl ?_
    refine s_bin ok rfl ((zshr m0 m1 (by omega) (by omega)).1) ?_
    refine s_ci ok rfl ?_
    refine s_bin ok rfl ((zshr m0 m1 (by omega) (by omega)).2) ?_
    refine s_ci ok rfl ?_
    refine s_c_eq ok rfl (by first | exact hb _ _ | exact ⟨by omega, by omega⟩) (by first | exact hb _ _ | exact ⟨by omega, by omega⟩) (fun c36 => ?_) (fun c36 => ?_)
    · refine s_ci ok rfl ?_
      refine s_goto ok rfl ?_
      refine s_retZ ok rfl (by first | exact Or.inl rfl | exact Or.inr rfl) ⟨congrArg (fun z => some (Value.int (iI z))) (by first | exact (if_pos (by omega)).symm | exact (if_neg (by omega)).symm), rfl⟩
    · refine s_ci ok rfl ?_
      refine s_retZ ok rfl (by first | exact Or.inl rfl | exact Or.inr rfl) ⟨congrArg (fun z => some (Value.int (iI z))) (by first | exact (if_pos (by omega)).symm | exact (if_neg (by omega)).symm), rfl⟩
theorem lp_let80_4 {E : zE} {d : Nat} {k : Nat → Nat × Nat} {h : Nat → Int → Int} {r : Nat → Int → Option Nat} {l : Nat → Nat → Int64} {n : Nat} {p : Int → Int} {x t : Int} (x0 : 0 ≤ x) (x1 : x < 12) (t0 : 0 ≤ t) (t1 : t < 8) (m0 : 0 ≤ h 48 t) (m1 : h 48 t < 4096) {b b6 cm lt mi : Int} {G : Nat → Int → Int} (eb : b = 0) (eG : G = if ((0 < x % 3 ∧ ¬ (0 < x % 3 ∧ zbt (h 48 t) (x - 1) = 1)) ∨ lt < max 0 (cm - mi)) then h else zv h 48 t (zsb (h 48 t) x)) (hb6 : b6 = 1 ∧ ((x % 3 = 0 ∧ zbt (p 1) (x / 3) = 0) ∨ (0 < x % 3 ∧ zbt (h 48 t) (x - 1) = 1)) ∨ b6 = 0 ∧ ¬ ((x % 3 = 0 ∧ zbt (p 1) (x / 3) = 0) ∨ (0 < x % 3 ∧ zbt (h 48 t) (x - 1) = 1))) (e38 : h 38 t = cm) (e40 : h 40 t = lt) (b38 : 0 ≤ cm ∧ cm ≤ 400) (b40 : 0 ≤ lt ∧ lt ≤ 1000) (b64 : 0 ≤ mi ∧ mi ≤ 100000) : zGo E (d + 5) M_X9_isLetOn 0 0 (zV (.int (iI b)) (zJ (k, G, r, l, n))) 80 ([some (.ref 37), some (.ref 4), some (.int (iI (x))), some (.int (iI (t))), some (.int (iI (mi))), some (.int (iI (x % 3))), some (.int (iI (b6)))], [], zJ (k, h, r, l, n), 0, 0) := by
  have ok := ok_X9_isLetOn
  have q1 := zbt_01 (p 1) (x / 3)
  have q2 := zbt_01 (h 48 t) (x - 1)
  refine s_ldI5 ok rfl ?_
  refine s_if_eq ok rfl ⟨by omega, by omega⟩ (fun c82 => ?_) (fun c82 => ?_)
  · refine s_ldA0 ok rfl ?_
    refine s_getF ok rfl rfl rfl rfl ?_
    refine s_ldI3 ok rfl ?_
    refine s_iald ok rfl (by exact rfl) (by exact rfl) (by omega) (by omega) ?_
    refine s_ldI4 ok rfl ?_
    refine s_sub ok rfl ?_
    refine s_ldA0 ok rfl ?_
    refine s_getF ok rfl rfl rfl rfl ?_
    refine s_ldI3 ok rfl ?_
    refine s_iald ok rfl (by exact rfl) (by exact rfl) (by omega) (by omega) ?_
    refine s_c_gt ok rfl ⟨by omega, by omega⟩ ⟨by omega, by omega⟩ (fun c105 => ?_) (fun c105 => ?_)
    · refine s_ci ok rfl ?_
      refine s_retZ ok rfl (Or.inl rfl) ⟨congrArg (fun z => some (Value.int (iI z))) eb.symm, (by first | (rw [eG, if_pos (by omega)]) | (rw [eG, if_neg (by omega)]))⟩
    · refine s_ldA0 ok rfl ?_
      refine s_getF ok rfl rfl rfl rfl ?_
      refine s_ldI3 ok rfl ?_
      refine s_dup2 ok rfl ?_
      refine s_iald ok rfl (by exact rfl) (by exact rfl) (by omega) (by omega) ?_
      refine s_ci ok rfl ?_
      refine s_ldI2 ok rfl ?_
      refine s_bin ok rfl ((zshl x0 x1)) ?_
      refine s_bin ok rfl ((zob m0 m1 x0 x1).1) ?_
      refine s_iast ok rfl (by exact rfl) (by exact rfl) (by omega) (by omega) (fun q => by cases q) ?_
      refine s_ci ok rfl ?_
      refine s_retZ ok rfl (Or.inl rfl) ⟨congrArg (fun z => some (Value.int (iI z))) eb.symm, (by first | (rw [eG, if_pos (by omega)]) | (rw [eG, if_neg (by omega)]))⟩
  · refine s_ldI6 ok rfl ?_
    refine s_if_eq ok rfl ⟨by omega, by omega⟩ (fun c87 => ?_) (fun c87 => ?_)
    · refine s_ci ok rfl ?_
      refine s_retZ ok rfl (Or.inl rfl) ⟨congrArg (fun z => some (Value.int (iI z))) eb.symm, (by first | (rw [eG, if_pos (by omega)]) | (rw [eG, if_neg (by omega)]))⟩
    · refine s_ldA0 ok rfl ?_
      refine s_getF ok rfl rfl rfl rfl ?_
      refine s_ldI3 ok rfl ?_
      refine s_iald ok rfl (by exact rfl) (by exact rfl) (by omega) (by omega) ?_
      refine s_ldI4 ok rfl ?_
      refine s_sub ok rfl ?_
      refine s_ldA0 ok rfl ?_
      refine s_getF ok rfl rfl rfl rfl ?_
      refine s_ldI3 ok rfl ?_
      refine s_iald ok rfl (by exact rfl) (by exact rfl) (by omega) (by omega) ?_
      refine s_c_gt ok rfl ⟨by omega, by omega⟩ ⟨by omega, by omega⟩ (fun c105 => ?_) (fun c105 => ?_)
      · refine s_ci ok rfl ?_
        refine s_retZ ok rfl (Or.inl rfl) ⟨congrArg (fun z => some (Value.int (iI z))) eb.symm, (by first | (rw [eG, if_pos (by omega)]) | (rw [eG, if_neg (by omega)]))⟩
      · refine s_ldA0 ok rfl ?_
        refine s_getF ok rfl rfl rfl rfl ?_
        refine s_ldI3 ok rfl ?_
        refine s_dup2 ok rfl ?_
        refine s_iald ok rfl (by exact rfl) (by exact rfl) (by omega) (by omega) ?_
        refine s_ci ok rfl ?_
        refine s_ldI2 ok rfl ?_
        refine s_bin ok rfl ((zshl x0 x1)) ?_
        refine s_bin ok rfl ((zob m0 m1 x0 x1).1) ?_
        refine s_iast ok rfl (by exact rfl) (by exact rfl) (by omega) (by omega) (fun q => by cases q) ?_
        refine s_ci ok rfl ?_
        refine s_retZ ok rfl (Or.inl rfl) ⟨congrArg (fun z => some (Value.int (iI z))) eb.symm, (by first | (rw [eG, if_pos (by omega)]) | (rw [eG, if_neg (by omega)]))⟩
theorem lp_let80_15 {E : zE} {d : Nat} {k : Nat → Nat × Nat} {h : Nat → Int → Int} {r : Nat → Int → Option Nat} {l : Nat → Nat → Int64} {n : Nat} {p : Int → Int} {x t : Int} (x0 : 0 ≤ x) (x1 : x < 12) (t0 : 0 ≤ t) (t1 : t < 8) (m0 : 0 ≤ h 48 t) (m1 : h 48 t < 4096) {b b6 cm lt mi : Int} {G : Nat → Int → Int} (eb : b = 0) (eG : G = if ((0 < x % 3 ∧ ¬ (0 < x % 3 ∧ zbt (h 48 t) (x - 1) = 1)) ∨ lt < max 0 (cm - mi)) then h else zv h 48 t (zsb (h 48 t) x)) (hb6 : b6 = 1 ∧ ((x % 3 = 0 ∧ zbt (p 1) (x / 3) = 0) ∨ (0 < x % 3 ∧ zbt (h 48 t) (x - 1) = 1)) ∨ b6 = 0 ∧ ¬ ((x % 3 = 0 ∧ zbt (p 1) (x / 3) = 0) ∨ (0 < x % 3 ∧ zbt (h 48 t) (x - 1) = 1))) (e38 : h 38 t = cm) (e40 : h 40 t = lt) (b38 : 0 ≤ cm ∧ cm ≤ 400) (b40 : 0 ≤ lt ∧ lt ≤ 1000) (b64 : 0 ≤ mi ∧ mi ≤ 100000) : zGo E (d + 5) M_X9_isLetOn 0 0 (zV (.int (iI b)) (zJ (k, G, r, l, n))) 80 ([some (.ref 37), some (.ref 15), some (.int (iI (x))), some (.int (iI (t))), some (.int (iI (mi))), some (.int (iI (x % 3))), some (.int (iI (b6)))], [], zJ (k, h, r, l, n), 0, 0) := by
  have ok := ok_X9_isLetOn
  have q1 := zbt_01 (p 1) (x / 3)
  have q2 := zbt_01 (h 48 t) (x - 1)
  refine s_ldI5 ok rfl ?_
  refine s_if_eq ok rfl ⟨by omega, by omega⟩ (fun c82 => ?_) (fun c82 => ?_)
  · refine s_ldA0 ok rfl ?_
    refine s_getF ok rfl rfl rfl rfl ?_
    refine s_ldI3 ok rfl ?_
    refine s_iald ok rfl (by exact rfl) (by exact rfl) (by omega) (by omega) ?_
    refine s_ldI4 ok rfl ?_
    refine s_sub ok rfl ?_
    refine s_ldA0 ok rfl ?_
    refine s_getF ok rfl rfl rfl rfl ?_
    refine s_ldI3 ok rfl ?_
    refine s_iald ok rfl (by exact rfl) (by exact rfl) (by omega) (by omega) ?_
    refine s_c_gt ok rfl ⟨by omega, by omega⟩ ⟨by omega, by omega⟩ (fun c105 => ?_) (fun c105 => ?_)
    · refine s_ci ok rfl ?_
      refine s_retZ ok rfl (Or.inl rfl) ⟨congrArg (fun z => some (Value.int (iI z))) eb.symm, (by first | (rw [eG, if_pos (by omega)]) | (rw [eG, if_neg (by omega)]))⟩
    · refine s_ldA0 ok rfl ?_
      refine s_getF ok rfl rfl rfl rfl ?_
      refine s_ldI3 ok rfl ?_
      refine s_dup2 ok rfl ?_
      refine s_iald ok rfl (by exact rfl) (by exact rfl) (by omega) (by omega) ?_
      refine s_ci ok rfl ?_
      refine s_ldI2 ok rfl ?_
      refine s_bin ok rfl ((zshl x0 x1)) ?_
      refine s_bin ok rfl ((zob m0 m1 x0 x1).1) ?_
      refine s_iast ok rfl (by exact rfl) (by exact rfl) (by omega) (by omega) (fun q => by cases q) ?_
      refine s_ci ok rfl ?_
      refine s_retZ ok rfl (Or.inl rfl) ⟨congrArg (fun z => some (Value.int (iI z))) eb.symm, (by first | (rw [eG, if_pos (by omega)]) | (rw [eG, if_neg (by omega)]))⟩
  · refine s_ldI6 ok rfl ?_
    refine s_if_eq ok rfl ⟨by omega, by omega⟩ (fun c87 => ?_) (fun c87 => ?_)
    · refine s_ci ok rfl ?_
      refine s_retZ ok rfl (Or.inl rfl) ⟨congrArg (fun z => some (Value.int (iI z))) eb.symm, (by first | (rw [eG, if_pos (by omega)]) | (rw [eG, if_neg (by omega)]))⟩
    · refine s_ldA0 ok rfl ?_
      refine s_getF ok rfl rfl rfl rfl ?_
      refine s_ldI3 ok rfl ?_
      refine s_iald ok rfl (by exact rfl) (by exact rfl) (by omega) (by omega) ?_
      refine s_ldI4 ok rfl ?_
      refine s_sub ok rfl ?_
      refine s_ldA0 ok rfl ?_
      refine s_getF ok rfl rfl rfl rfl ?_
      refine s_ldI3 ok rfl ?_
      refine s_iald ok rfl (by exact rfl) (by exact rfl) (by omega) (by omega) ?_
      refine s_c_gt ok rfl ⟨by omega, by omega⟩ ⟨by omega, by omega⟩ (fun c105 => ?_) (fun c105 => ?_)
      · refine s_ci ok rfl ?_
        refine s_retZ ok rfl (Or.inl rfl) ⟨congrArg (fun z => some (Value.int (iI z))) eb.symm, (by first | (rw [eG, if_pos (by omega)]) | (rw [eG, if_neg (by omega)]))⟩
      · refine s_ldA0 ok rfl ?_
        refine s_getF ok rfl rfl rfl rfl ?_
        refine s_ldI3 ok rfl ?_
        refine s_dup2 ok rfl ?_
        refine s_iald ok rfl (by exact rfl) (by exact rfl) (by omega) (by omega) ?_
        refine s_ci ok rfl ?_
        refine s_ldI2 ok rfl ?_
        refine s_bin ok rfl ((zshl x0 x1)) ?_
        refine s_bin ok rfl ((zob m0 m1 x0 x1).1) ?_
        refine s_iast ok rfl (by exact rfl) (by exact rfl) (by omega) (by omega) (fun q => by cases q) ?_
        refine s_ci ok rfl ?_
        refine s_retZ ok rfl (Or.inl rfl) ⟨congrArg (fun z => some (Value.int (iI z))) eb.symm, (by first | (rw [eG, if_pos (by omega)]) | (rw [eG, if_neg (by omega)]))⟩
theorem ct_isLetOn4 {E : zE} {d : Nat} {k : Nat → Nat × Nat} {h : Nat → Int → Int} {r : Nat → Int → Option Nat} {l : Nat → Nat → Int64} {n : Nat} {p : Int → Int} {x t : Int} (x0 : 0 ≤ x) (x1 : x < 12) (t0 : 0 ≤ t) (t1 : t < 8) (m0 : 0 ≤ h 48 t) (m1 : h 48 t < 4096) {s mi : Int} (ec : h 11 (x / 3) = zbt (p 1) (x / 3)) (es : h 10 (x / 3) = p (11 + 2 * (x / 3) + 1)) (bs : 0 ≤ p (11 + 2 * (x / 3) + 1) ∧ p (11 + 2 * (x / 3) + 1) ≤ 9) {v : Nat} (hv : r 5 t = some v) (wv : wk k h v (pK p s) (pF p s)) (e38 : h 38 t = pCm p s) (e40 : h 40 t = p 2 + pEx p s) (e41 : h 41 t = pPl p s) (b38 : 0 ≤ pCm p s ∧ pCm p s ≤ 400) (b40 : 0 ≤ p 2 + pEx p s ∧ p 2 + pEx p s ≤ 1000) (b64 : 0 ≤ mi ∧ mi ≤ 100000) (b53 : -1000 ≤ h 53 x ∧ h 53 x ≤ 1000) : zCT E (d + 5) M_X9_isLetOn [.ref 37, .ref 4, .int (iI (x)), .int (iI (t)), .int (iI (mi))] (zJ (k, h, r, l, n)) 0 0 (zV (.int (iI (if uB p s h x t mi then 1 else 0))) (zJ (k, uN p s h x t mi, r, l, n))) := by
  have ok := ok_X9_isLetOn
  refine zCT_of pn_X9_isLetOn (Nat.le_of_ble_eq_true rfl) ?_
  show zGo _ _ _ _ _ _ 0 ([some (.ref 37), some (.ref 4), some (.int (iI (x))), some (.int (iI (t))), some (.int (iI (mi))), none, none], [], _, _, _)
  have q1 := zbt_01 (p 1) (x / 3)
  have q2 := zbt_01 (h 48 t) (x - 1)
  have q3 := pPl_b p s
  refine s_ldI2 ok rfl ?_
  refine s_ci ok rfl ?_
  refine s_rem ok rfl (by first | exact hb _ _ | exact ⟨by omega, by omega⟩) (by first | exact hb _ _ | exact ⟨by omega, by omega⟩) (by omega) (by omega) ?_
  refine s_stI5 ok rfl rfl ?_
  refine s_ldA0 ok rfl ?_
  refine s_ldA1 ok rfl ?_
  refine s_ldI2 ok rfl ?_
  refine s_ldI3 ok rfl ?_
  refine s_callV ok rfl rfl rfl rfl rfl rfl (ct_may4 (p := p) x0 x1 t0 t1 m0 m1 ec) ?_
  have hb6 : (if ((x % 3 = 0 ∧ zbt (p 1) (x / 3) = 0) ∨ (0 < x % 3 ∧ zbt (h 48 t) (x - 1) = 1)) then (1 : Int) else 0) = 1 ∧ ((x % 3 = 0 ∧ zbt (p 1) (x / 3) = 0) ∨ (0 < x % 3 ∧ zbt (h 48 t) (x - 1) = 1)) ∨ (if ((x % 3 = 0 ∧ zbt (p 1) (x / 3) = 0) ∨ (0 < x % 3 ∧ zbt (h 48 t) (x - 1) = 1)) then (1 : Int) else 0) = 0 ∧ ¬ ((x % 3 = 0 ∧ zbt (p 1) (x / 3) = 0) ∨ (0 < x % 3 ∧ zbt (h 48 t) (x - 1) = 1)) := by
    by_cases c : ((x % 3 = 0 ∧ zbt (p 1) (x / 3) = 0) ∨ (0 < x % 3 ∧ zbt (h 48 t) (x - 1) = 1))
    · rw [if_pos c]
      exact Or.inl ⟨rfl, c⟩
    · rw [if_neg c]
      exact Or.inr ⟨rfl, c⟩
  generalize (if ((x % 3 = 0 ∧ zbt (p 1) (x / 3) = 0) ∨ (0 < x % 3 ∧ zbt (h 48 t) (x - 1) = 1)) then (1 : Int) else 0) = b6 at hb6 ⊢
  refine s_stI6 ok rfl rfl ?_
  refine s_ldA0 ok rfl ?_
  refine s_getF ok rfl rfl rfl rfl ?_
  refine s_ldI3 ok rfl ?_
  refine s_iald ok rfl (by exact rfl) (by exact rfl) (by omega) (by omega) ?_
  refine s_ldI4 ok rfl ?_
  refine s_c_gt ok rfl ⟨by omega, by omega⟩ ⟨by omega, by omega⟩ (fun c22 => ?_) (fun c22 => ?_)
  · first
      | (have nC : ¬ uC p s h x t mi := fun z => absurd (And.intro z.1 z.2.1) (by omega)
         exact lp_let80_4 (p := p) x0 x1 t0 t1 m0 m1 (if_neg fun z => nC z.1) (by unfold uN; rw [if_neg (fun z => nC z.1), if_neg nC]) hb6 e38 e40 b38 b40 b64)
      | (have nC : ¬ uC p s h x t mi := fun z => z.2.2 c41
         exact lp_let80_4 (p := p) x0 x1 t0 t1 m0 m1 (if_neg fun z => nC z.1) (by unfold uN; rw [if_neg (fun z => nC z.1), if_neg nC]) hb6 e38 e40 b38 b40 b64)
      | (have yC : uC p s h x t mi := ⟨by omega, by omega, c41⟩
         have nB : ¬ uB p s h x t mi := fun z => absurd z.2 (by omega)
         exact lp_let80_4 (p := p) (h := zv h 47 t (h 47 t + 1)) x0 x1 t0 t1 m0 m1 (if_neg nB) (by unfold uN; rw [if_neg nB, if_pos yC]; rfl) hb6 e38 e40 b38 b40 b64)
  · refine s_ldI6 ok rfl ?_
    refine s_if_eq ok rfl ⟨by omega, by omega⟩ (fun c27 => ?_) (fun c27 => ?_)
    · first
        | (have nC : ¬ uC p s h x t mi := fun z => absurd (And.intro z.1 z.2.1) (by omega)
           exact lp_let80_4 (p := p) x0 x1 t0 t1 m0 m1 (if_neg fun z => nC z.1) (by unfold uN; rw [if_neg (fun z => nC z.1), if_neg nC]) hb6 e38 e40 b38 b40 b64)
        | (have nC : ¬ uC p s h x t mi := fun z => z.2.2 c41
           exact lp_let80_4 (p := p) x0 x1 t0 t1 m0 m1 (if_neg fun z => nC z.1) (by unfold uN; rw [if_neg (fun z => nC z.1), if_neg nC]) hb6 e38 e40 b38 b40 b64)
        | (have yC : uC p s h x t mi := ⟨by omega, by omega, c41⟩
           have nB : ¬ uB p s h x t mi := fun z => absurd z.2 (by omega)
           exact lp_let80_4 (p := p) (h := zv h 47 t (h 47 t + 1)) x0 x1 t0 t1 m0 m1 (if_neg nB) (by unfold uN; rw [if_neg nB, if_pos yC]; rfl) hb6 e38 e40 b38 b40 b64)
    · refine s_ldA1 ok rfl ?_
      refine s_getF ok rfl rfl rfl rfl ?_
      refine s_ldI3 ok rfl ?_
      refine s_aald ok rfl (by exact rfl) (by exact rfl) (by exact rfl) (by omega) (by omega) hv ?_
      refine s_ldI5 ok rfl ?_
      refine s_callD ok rfl rfl rfl rfl (vt_boards wv (by omega) (by omega)) ?_
      refine s_if_eq ok rfl (by unfold kTk; exact zif10) (fun c41 => ?_) (fun c41 => ?_)
      · first
          | (have nC : ¬ uC p s h x t mi := fun z => absurd (And.intro z.1 z.2.1) (by omega)
             exact lp_let80_4 (p := p) x0 x1 t0 t1 m0 m1 (if_neg fun z => nC z.1) (by unfold uN; rw [if_neg (fun z => nC z.1), if_neg nC]) hb6 e38 e40 b38 b40 b64)
          | (have nC : ¬ uC p s h x t mi := fun z => z.2.2 c41
             exact lp_let80_4 (p := p) x0 x1 t0 t1 m0 m1 (if_neg fun z => nC z.1) (by unfold uN; rw [if_neg (fun z => nC z.1), if_neg nC]) hb6 e38 e40 b38 b40 b64)
          | (have yC : uC p s h x t mi := ⟨by omega, by omega, c41⟩
             have nB : ¬ uB p s h x t mi := fun z => absurd z.2 (by omega)
             exact lp_let80_4 (p := p) (h := zv h 47 t (h 47 t + 1)) x0 x1 t0 t1 m0 m1 (if_neg nB) (by unfold uN; rw [if_neg nB, if_pos yC]; rfl) hb6 e38 e40 b38 b40 b64)
      · refine s_ldA0 ok rfl ?_
        refine s_getF ok rfl rfl rfl rfl ?_
        refine s_ldI2 ok rfl ?_
        refine s_iald ok rfl (by exact rfl) (by exact rfl) (by omega) (by omega) ?_
        refine s_ldA0 ok rfl ?_
        refine s_getF ok rfl rfl rfl rfl ?_
        refine s_ldI3 ok rfl ?_
        refine s_iald ok rfl (by exact rfl) (by exact rfl) (by omega) (by omega) ?_
        refine s_add ok rfl ?_
        refine s_ldA1 ok rfl ?_
        refine s_getF ok rfl rfl rfl rfl ?_
        refine s_ldI2 ok rfl ?_
        refine s_ci ok rfl ?_
        refine s_div ok rfl (by first | exact hb _ _ | exact ⟨by omega, by omega⟩) (by first | exact hb _ _ | exact ⟨by omega, by omega⟩) (by omega) (by omega) ?_
        refine s_iald ok rfl (by exact rfl) (by exact rfl) (by omega) (by omega) ?_
        refine s_c_gt ok rfl ⟨by omega, by omega⟩ ⟨by omega, by omega⟩ (fun c65 => ?_) (fun c65 => ?_)
        · refine s_ldA0 ok rfl ?_
          refine s_getF ok rfl rfl rfl rfl ?_
          refine s_ldI3 ok rfl ?_
          refine s_dup2 ok rfl ?_
          refine s_iald ok rfl (by exact rfl) (by exact rfl) (by omega) (by omega) ?_
          refine s_ci ok rfl ?_
          refine s_add ok rfl ?_
          refine s_iast ok rfl (by exact rfl) (by exact rfl) (by omega) (by omega) (fun q => by cases q) ?_
          first
            | (have nC : ¬ uC p s h x t mi := fun z => absurd (And.intro z.1 z.2.1) (by omega)
               exact lp_let80_4 (p := p) x0 x1 t0 t1 m0 m1 (if_neg fun z => nC z.1) (by unfold uN; rw [if_neg (fun z => nC z.1), if_neg nC]) hb6 e38 e40 b38 b40 b64)
            | (have nC : ¬ uC p s h x t mi := fun z => z.2.2 c41
               exact lp_let80_4 (p := p) x0 x1 t0 t1 m0 m1 (if_neg fun z => nC z.1) (by unfold uN; rw [if_neg (fun z => nC z.1), if_neg nC]) hb6 e38 e40 b38 b40 b64)
            | (have yC : uC p s h x t mi := ⟨by omega, by omega, c41⟩
               have nB : ¬ uB p s h x t mi := fun z => absurd z.2 (by omega)
               exact lp_let80_4 (p := p) (h := zv h 47 t (h 47 t + 1)) x0 x1 t0 t1 m0 m1 (if_neg nB) (by unfold uN; rw [if_neg nB, if_pos yC]; rfl) hb6 e38 e40 b38 b40 b64)
        · refine s_ci ok rfl ?_
          (have yB : uB p s h x t mi := ⟨⟨by omega, by omega, c41⟩, by omega⟩
           refine s_retZ ok rfl (Or.inr rfl) ⟨congrArg (fun z => some (Value.int (iI z))) (if_pos yB).symm, ?_⟩
           unfold uN
           rw [if_pos yB])
theorem ct_isLetOn15 {E : zE} {d : Nat} {k : Nat → Nat × Nat} {h : Nat → Int → Int} {r : Nat → Int → Option Nat} {l : Nat → Nat → Int64} {n : Nat} {p : Int → Int} {x t : Int} (x0 : 0 ≤ x) (x1 : x < 12) (t0 : 0 ≤ t) (t1 : t < 8) (m0 : 0 ≤ h 48 t) (m1 : h 48 t < 4096) {s mi : Int} (ec : h 22 (x / 3) = zbt (p 1) (x / 3)) (es : h 21 (x / 3) = p (11 + 2 * (x / 3) + 1)) (bs : 0 ≤ p (11 + 2 * (x / 3) + 1) ∧ p (11 + 2 * (x / 3) + 1) ≤ 9) {v : Nat} (hv : r 16 t = some v) (wv : wk k h v (pK p s) (pF p s)) (e38 : h 38 t = pCm p s) (e40 : h 40 t = p 2 + pEx p s) (e41 : h 41 t = pPl p s) (b38 : 0 ≤ pCm p s ∧ pCm p s ≤ 400) (b40 : 0 ≤ p 2 + pEx p s ∧ p 2 + pEx p s ≤ 1000) (b64 : 0 ≤ mi ∧ mi ≤ 100000) (b53 : -1000 ≤ h 53 x ∧ h 53 x ≤ 1000) : zCT E (d + 5) M_X9_isLetOn [.ref 37, .ref 15, .int (iI (x)), .int (iI (t)), .int (iI (mi))] (zJ (k, h, r, l, n)) 0 0 (zV (.int (iI (if uB p s h x t mi then 1 else 0))) (zJ (k, uN p s h x t mi, r, l, n))) := by
  have ok := ok_X9_isLetOn
  refine zCT_of pn_X9_isLetOn (Nat.le_of_ble_eq_true rfl) ?_
  show zGo _ _ _ _ _ _ 0 ([some (.ref 37), some (.ref 15), some (.int (iI (x))), some (.int (iI (t))), some (.int (iI (mi))), none, none], [], _, _, _)
  have q1 := zbt_01 (p 1) (x / 3)
  have q2 := zbt_01 (h 48 t) (x - 1)
  have q3 := pPl_b p s
  refine s_ldI2 ok rfl ?_
  refine s_ci ok rfl ?_
  refine s_rem ok rfl (by first | exact hb _ _ | exact ⟨by omega, by omega⟩) (by first | exact hb _ _ | exact ⟨by omega, by omega⟩) (by omega) (by omega) ?_
  refine s_stI5 ok rfl rfl ?_
  refine s_ldA0 ok rfl ?_
  refine s_ldA1 ok rfl ?_
  refine s_ldI2 ok rfl ?_
  refine s_ldI3 ok rfl ?_
  refine s_callV ok rfl rfl rfl rfl rfl rfl (ct_may15 (p := p) x0 x1 t0 t1 m0 m1 ec) ?_
  have hb6 : (if ((x % 3 = 0 ∧ zbt (p 1) (x / 3) = 0) ∨ (0 < x % 3 ∧ zbt (h 48 t) (x - 1) = 1)) then (1 : Int) else 0) = 1 ∧ ((x % 3 = 0 ∧ zbt (p 1) (x / 3) = 0) ∨ (0 < x % 3 ∧ zbt (h 48 t) (x - 1) = 1)) ∨ (if ((x % 3 = 0 ∧ zbt (p 1) (x / 3) = 0) ∨ (0 < x % 3 ∧ zbt (h 48 t) (x - 1) = 1)) then (1 : Int) else 0) = 0 ∧ ¬ ((x % 3 = 0 ∧ zbt (p 1) (x / 3) = 0) ∨ (0 < x % 3 ∧ zbt (h 48 t) (x - 1) = 1)) := by
    by_cases c : ((x % 3 = 0 ∧ zbt (p 1) (x / 3) = 0) ∨ (0 < x % 3 ∧ zbt (h 48 t) (x - 1) = 1))
    · rw [if_pos c]
      exact Or.inl ⟨rfl, c⟩
    · rw [if_neg c]
      exact Or.inr ⟨rfl, c⟩
  generalize (if ((x % 3 = 0 ∧ zbt (p 1) (x / 3) = 0) ∨ (0 < x % 3 ∧ zbt (h 48 t) (x - 1) = 1)) then (1 : Int) else 0) = b6 at hb6 ⊢
  refine s_stI6 ok rfl rfl ?_
  refine s_ldA0 ok rfl ?_
  refine s_getF ok rfl rfl rfl rfl ?_
  refine s_ldI3 ok rfl ?_
  refine s_iald ok rfl (by exact rfl) (by exact rfl) (by omega) (by omega) ?_
  refine s_ldI4 ok rfl ?_
  refine s_c_gt ok rfl ⟨by omega, by omega⟩ ⟨by omega, by omega⟩ (fun c22 => ?_) (fun c22 => ?_)
  · first
      | (have nC : ¬ uC p s h x t mi := fun z => absurd (And.intro z.1 z.2.1) (by omega)
         exact lp_let80_15 (p := p) x0 x1 t0 t1 m0 m1 (if_neg fun z => nC z.1) (by unfold uN; rw [if_neg (fun z => nC z.1), if_neg nC]) hb6 e38 e40 b38 b40 b64)
      | (have nC : ¬ uC p s h x t mi := fun z => z.2.2 c41
         exact lp_let80_15 (p := p) x0 x1 t0 t1 m0 m1 (if_neg fun z => nC z.1) (by unfold uN; rw [if_neg (fun z => nC z.1), if_neg nC]) hb6 e38 e40 b38 b40 b64)
      | (have yC : uC p s h x t mi := ⟨by omega, by omega, c41⟩
         have nB : ¬ uB p s h x t mi := fun z => absurd z.2 (by omega)
         exact lp_let80_15 (p := p) (h := zv h 47 t (h 47 t + 1)) x0 x1 t0 t1 m0 m1 (if_neg nB) (by unfold uN; rw [if_neg nB, if_pos yC]; rfl) hb6 e38 e40 b38 b40 b64)
  · refine s_ldI6 ok rfl ?_
    refine s_if_eq ok rfl ⟨by omega, by omega⟩ (fun c27 => ?_) (fun c27 => ?_)
    · first
        | (have nC : ¬ uC p s h x t mi := fun z => absurd (And.intro z.1 z.2.1) (by omega)
           exact lp_let80_15 (p := p) x0 x1 t0 t1 m0 m1 (if_neg fun z => nC z.1) (by unfold uN; rw [if_neg (fun z => nC z.1), if_neg nC]) hb6 e38 e40 b38 b40 b64)
        | (have nC : ¬ uC p s h x t mi := fun z => z.2.2 c41
           exact lp_let80_15 (p := p) x0 x1 t0 t1 m0 m1 (if_neg fun z => nC z.1) (by unfold uN; rw [if_neg (fun z => nC z.1), if_neg nC]) hb6 e38 e40 b38 b40 b64)
        | (have yC : uC p s h x t mi := ⟨by omega, by omega, c41⟩
           have nB : ¬ uB p s h x t mi := fun z => absurd z.2 (by omega)
           exact lp_let80_15 (p := p) (h := zv h 47 t (h 47 t + 1)) x0 x1 t0 t1 m0 m1 (if_neg nB) (by unfold uN; rw [if_neg nB, if_pos yC]; rfl) hb6 e38 e40 b38 b40 b64)
    · refine s_ldA1 ok rfl ?_
      refine s_getF ok rfl rfl rfl rfl ?_
      refine s_ldI3 ok rfl ?_
      refine s_aald ok rfl (by exact rfl) (by exact rfl) (by exact rfl) (by omega) (by omega) hv ?_
      refine s_ldI5 ok rfl ?_
      refine s_callD ok rfl rfl rfl rfl (vt_boards wv (by omega) (by omega)) ?_
      refine s_if_eq ok rfl (by unfold kTk; exact zif10) (fun c41 => ?_) (fun c41 => ?_)
      · first
          | (have nC : ¬ uC p s h x t mi := fun z => absurd (And.intro z.1 z.2.1) (by omega)
             exact lp_let80_15 (p := p) x0 x1 t0 t1 m0 m1 (if_neg fun z => nC z.1) (by unfold uN; rw [if_neg (fun z => nC z.1), if_neg nC]) hb6 e38 e40 b38 b40 b64)
          | (have nC : ¬ uC p s h x t mi := fun z => z.2.2 c41
             exact lp_let80_15 (p := p) x0 x1 t0 t1 m0 m1 (if_neg fun z => nC z.1) (by unfold uN; rw [if_neg (fun z => nC z.1), if_neg nC]) hb6 e38 e40 b38 b40 b64)
          | (have yC : uC p s h x t mi := ⟨by omega, by omega, c41⟩
             have nB : ¬ uB p s h x t mi := fun z => absurd z.2 (by omega)
             exact lp_let80_15 (p := p) (h := zv h 47 t (h 47 t + 1)) x0 x1 t0 t1 m0 m1 (if_neg nB) (by unfold uN; rw [if_neg nB, if_pos yC]; rfl) hb6 e38 e40 b38 b40 b64)
      · refine s_ldA0 ok rfl ?_
        refine s_getF ok rfl rfl rfl rfl ?_
        refine s_ldI2 ok rfl ?_
        refine s_iald ok rfl (by exact rfl) (by exact rfl) (by omega) (by omega) ?_
        refine s_ldA0 ok rfl ?_
        refine s_getF ok rfl rfl rfl rfl ?_
        refine s_ldI3 ok rfl ?_
        refine s_iald ok rfl (by exact rfl) (by exact rfl) (by omega) (by omega) ?_
        refine s_add ok rfl ?_
        refine s_ldA1 ok rfl ?_
        refine s_getF ok rfl rfl rfl rfl ?_
        refine s_ldI2 ok rfl ?_
        refine s_ci ok rfl ?_
        refine s_div ok rfl (by first | exact hb _ _ | exact ⟨by omega, by omega⟩) (by first | exact hb _ _ | exact ⟨by omega, by omega⟩) (by omega) (by omega) ?_
        refine s_iald ok rfl (by exact rfl) (by exact rfl) (by omega) (by omega) ?_
        refine s_c_gt ok rfl ⟨by omega, by omega⟩ ⟨by omega, by omega⟩ (fun c65 => ?_) (fun c65 => ?_)
        · refine s_ldA0 ok rfl ?_
          refine s_getF ok rfl rfl rfl rfl ?_
          refine s_ldI3 ok rfl ?_
          refine s_dup2 ok rfl ?_
          refine s_iald ok rfl (by exact rfl) (by exact rfl) (by omega) (by omega) ?_
          refine s_ci ok rfl ?_
          refine s_add ok rfl ?_
          refine s_iast ok rfl (by exact rfl) (by exact rfl) (by omega) (by omega) (fun q => by cases q) ?_
          first
            | (have nC : ¬ uC p s h x t mi := fun z => absurd (And.intro z.1 z.2.1) (by omega)
               exact lp_let80_15 (p := p) x0 x1 t0 t1 m0 m1 (if_neg fun z => nC z.1) (by unfold uN; rw [if_neg (fun z => nC z.1), if_neg nC]) hb6 e38 e40 b38 b40 b64)
            | (have nC : ¬ uC p s h x t mi := fun z => z.2.2 c41
               exact lp_let80_15 (p := p) x0 x1 t0 t1 m0 m1 (if_neg fun z => nC z.1) (by unfold uN; rw [if_neg (fun z => nC z.1), if_neg nC]) hb6 e38 e40 b38 b40 b64)
            | (have yC : uC p s h x t mi := ⟨by omega, by omega, c41⟩
               have nB : ¬ uB p s h x t mi := fun z => absurd z.2 (by omega)
               exact lp_let80_15 (p := p) (h := zv h 47 t (h 47 t + 1)) x0 x1 t0 t1 m0 m1 (if_neg nB) (by unfold uN; rw [if_neg nB, if_pos yC]; rfl) hb6 e38 e40 b38 b40 b64)
        · refine s_ci ok rfl ?_
          (have yB : uB p s h x t mi := ⟨⟨by omega, by omega, c41⟩, by omega⟩
           refine s_retZ ok rfl (Or.inr rfl) ⟨congrArg (fun z => some (Value.int (iI z))) (if_pos yB).symm, ?_⟩
           unfold uN
           rw [if_pos yB])
