/-! set -/
/-- b is a number that the rule t may have -/
abbrev sRu (t b : Int) : Prop := 0 ≤ t ∧ t ≤ 3 ∧ 0 ≤ b ∧ (¬ t = 1 ∨ 1 ≤ b) ∧ (2 ≤ t ∨ b ≤ 30) ∧ (t < 2 ∨ b ≤ 9)
theorem ct_set {E : zE} {d : Nat} {k : Nat → Nat × Nat} {h : Nat → Int → Int} {r : Nat → Int → Option Nat} {l : Nat → Nat → Int64} {n : Nat} {t b : Int} (zt : zb t) (z2 : zb b) : zCT E (d + 1) M_X12_set [.ref 59, .int (iI (t)), .int (iI (b))] (zJ (k, h, r, l, n)) 0 0 (zV (.int (iI (if sRu t b then h 60 (2 + t) else -1))) (zJ (k, (if sRu t b then zv h 60 (2 + t) b else h), r, l, n))) := by
  have ok := ok_X12_set
  refine zCT_of pn_X12_set (Nat.le_of_ble_eq_true rfl) ?_
  show zGo _ _ _ _ _ _ 0 ([some (.ref 59), some (.int (iI (t))), some (.int (iI (b))), none], [], _, _, _)
  refine s_ldI1 ok rfl ?_
  refine s_ci ok rfl ?_
  refine s_ci ok rfl ?_
  refine s_callS ok rfl rfl rfl rfl (ct_isIn zt ⟨by omega, by omega⟩ ⟨by omega, by omega⟩) ?_
  refine s_if_eq ok rfl zif01 (fun c6 => ?_) (fun c6 => ?_)
  · refine s_ci ok rfl ?_
    refine s_retI ok rfl ⟨congrArg (fun z => some (Value.int (iI z))) (if_neg (fun q => by first | exact zif_f c6 ⟨q.1, q.2.1⟩ | (have z := zif_f c35; omega))).symm, congrArg (fun z => zJ (k, z, r, l, n)) (if_neg (fun q => by first | exact zif_f c6 ⟨q.1, q.2.1⟩ | (have z := zif_f c35; omega))).symm⟩
  · refine s_ldI2 ok rfl ?_
    refine s_ldI1 ok rfl ?_
    refine s_ci ok rfl ?_
    refine s_c_eq ok rfl zt ⟨by omega, by omega⟩ (fun c12 => ?_) (fun c12 => ?_)
    · refine s_ci ok rfl ?_
      refine s_goto ok rfl ?_
      refine s_ldI1 ok rfl ?_
      refine s_ci ok rfl ?_
      refine s_c_ge ok rfl zt ⟨by omega, by omega⟩ (fun c22 => ?_) (fun c22 => ?_)
      · refine s_ci ok rfl ?_
        refine s_callS ok rfl rfl rfl rfl (ct_isIn z2 ⟨by omega, by omega⟩ ⟨by omega, by omega⟩) ?_
        refine s_if_eq ok rfl zif01 (fun c35 => ?_) (fun c35 => ?_)
        · refine s_ci ok rfl ?_
          refine s_retI ok rfl ⟨congrArg (fun z => some (Value.int (iI z))) (if_neg (fun q => by first | exact zif_f c6 ⟨q.1, q.2.1⟩ | (have z := zif_f c35; omega))).symm, congrArg (fun z => zJ (k, z, r, l, n)) (if_neg (fun q => by first | exact zif_f c6 ⟨q.1, q.2.1⟩ | (have z := zif_f c35; omega))).symm⟩
        · have y1 := zif_t c6
          refine s_ldA0 ok rfl ?_
          refine s_getF ok rfl rfl rfl rfl ?_
          refine s_ci ok rfl ?_
          refine s_ldI1 ok rfl ?_
          refine s_add ok rfl ?_
          refine s_iald ok rfl (by exact rfl) (by exact rfl) (by omega) (by omega) ?_
          refine s_stI3 ok rfl rfl ?_
          refine s_ldA0 ok rfl ?_
          refine s_getF ok rfl rfl rfl rfl ?_
          refine s_ci ok rfl ?_
          refine s_ldI1 ok rfl ?_
          refine s_add ok rfl ?_
          refine s_ldI2 ok rfl ?_
          refine s_iast ok rfl (by exact rfl) (by exact rfl) (by omega) (by omega) (fun q => by cases q) ?_
          refine s_ldI3 ok rfl ?_
          refine s_retI ok rfl ⟨congrArg (fun z => some (Value.int (iI z))) (if_pos (show sRu t b by have z1 := zif_t c6; have z2 := zif_t c35; omega)).symm, congrArg (fun z => zJ (k, z, r, l, n)) (if_pos (show sRu t b by have z1 := zif_t c6; have z2 := zif_t c35; omega)).symm⟩
      · refine s_ci ok rfl ?_
        refine s_goto ok rfl ?_
        refine s_callS ok rfl rfl rfl rfl (ct_isIn z2 ⟨by omega, by omega⟩ ⟨by omega, by omega⟩) ?_
        refine s_if_eq ok rfl zif01 (fun c35 => ?_) (fun c35 => ?_)
        · refine s_ci ok rfl ?_
          refine s_retI ok rfl ⟨congrArg (fun z => some (Value.int (iI z))) (if_neg (fun q => by first | exact zif_f c6 ⟨q.1, q.2.1⟩ | (have z := zif_f c35; omega))).symm, congrArg (fun z => zJ (k, z, r, l, n)) (if_neg (fun q => by first | exact zif_f c6 ⟨q.1, q.2.1⟩ | (have z := zif_f c35; omega))).symm⟩
        · have y1 := zif_t c6
          refine s_ldA0 ok rfl ?_
          refine s_getF ok rfl rfl rfl rfl ?_
          refine s_ci ok rfl ?_
          refine s_ldI1 ok rfl ?_
          refine s_add ok rfl ?_
          refine s_iald ok rfl (by exact rfl) (by exact rfl) (by omega) (by omega) ?_
          refine s_stI3 ok rfl rfl ?_
          refine s_ldA0 ok rfl ?_
          refine s_getF ok rfl rfl rfl rfl ?_
          refine s_ci ok rfl ?_
          refine s_ldI1 ok rfl ?_
          refine s_add ok rfl ?_
          refine s_ldI2 ok rfl ?_
          refine s_iast ok rfl (by exact rfl) (by exact rfl) (by omega) (by omega) (fun q => by cases q) ?_
          refine s_ldI3 ok rfl ?_
          refine s_retI ok rfl ⟨congrArg (fun z => some (Value.int (iI z))) (if_pos (show sRu t b by have z1 := zif_t c6; have z2 := zif_t c35; omega)).symm, congrArg (fun z => zJ (k, z, r, l, n)) (if_pos (show sRu t b by have z1 := zif_t c6; have z2 := zif_t c35; omega)).symm⟩
    · refine s_ci ok rfl ?_
      refine s_ldI1 ok rfl ?_
      refine s_ci ok rfl ?_
      refine s_c_ge ok rfl zt ⟨by omega, by omega⟩ (fun c22 => ?_) (fun c22 => ?_)
      · refine s_ci ok rfl ?_
        refine s_callS ok rfl rfl rfl rfl (ct_isIn z2 ⟨by omega, by omega⟩ ⟨by omega, by omega⟩) ?_
        refine s_if_eq ok rfl zif01 (fun c35 => ?_) (fun c35 => ?_)
        · refine s_ci ok rfl ?_
          refine s_retI ok rfl ⟨congrArg (fun z => some (Value.int (iI z))) (if_neg (fun q => by first | exact zif_f c6 ⟨q.1, q.2.1⟩ | (have z := zif_f c35; omega))).symm, congrArg (fun z => zJ (k, z, r, l, n)) (if_neg (fun q => by first | exact zif_f c6 ⟨q.1, q.2.1⟩ | (have z := zif_f c35; omega))).symm⟩
        · have y1 := zif_t c6
          refine s_ldA0 ok rfl ?_
          refine s_getF ok rfl rfl rfl rfl ?_
          refine s_ci ok rfl ?_
          refine s_ldI1 ok rfl ?_
          refine s_add ok rfl ?_
          refine s_iald ok rfl (by exact rfl) (by exact rfl) (by omega) (by omega) ?_
          refine s_stI3 ok rfl rfl ?_
          refine s_ldA0 ok rfl ?_
          refine s_getF ok rfl rfl rfl rfl ?_
          refine s_ci ok rfl ?_
          refine s_ldI1 ok rfl ?_
          refine s_add ok rfl ?_
          refine s_ldI2 ok rfl ?_
          refine s_iast ok rfl (by exact rfl) (by exact rfl) (by omega) (by omega) (fun q => by cases q) ?_
          refine s_ldI3 ok rfl ?_
          refine s_retI ok rfl ⟨congrArg (fun z => some (Value.int (iI z))) (if_pos (show sRu t b by have z1 := zif_t c6; have z2 := zif_t c35; omega)).symm, congrArg (fun z => zJ (k, z, r, l, n)) (if_pos (show sRu t b by have z1 := zif_t c6; have z2 := zif_t c35; omega)).symm⟩
      · refine s_ci ok rfl ?_
        refine s_goto ok rfl ?_
        refine s_callS ok rfl rfl rfl rfl (ct_isIn z2 ⟨by omega, by omega⟩ ⟨by omega, by omega⟩) ?_
        refine s_if_eq ok rfl zif01 (fun c35 => ?_) (fun c35 => ?_)
        · refine s_ci ok rfl ?_
          refine s_retI ok rfl ⟨congrArg (fun z => some (Value.int (iI z))) (if_neg (fun q => by first | exact zif_f c6 ⟨q.1, q.2.1⟩ | (have z := zif_f c35; omega))).symm, congrArg (fun z => zJ (k, z, r, l, n)) (if_neg (fun q => by first | exact zif_f c6 ⟨q.1, q.2.1⟩ | (have z := zif_f c35; omega))).symm⟩
        · have y1 := zif_t c6
          refine s_ldA0 ok rfl ?_
          refine s_getF ok rfl rfl rfl rfl ?_
          refine s_ci ok rfl ?_
          refine s_ldI1 ok rfl ?_
          refine s_add ok rfl ?_
          refine s_iald ok rfl (by exact rfl) (by exact rfl) (by omega) (by omega) ?_
          refine s_stI3 ok rfl rfl ?_
          refine s_ldA0 ok rfl ?_
          refine s_getF ok rfl rfl rfl rfl ?_
          refine s_ci ok rfl ?_
          refine s_ldI1 ok rfl ?_
          refine s_add ok rfl ?_
          refine s_ldI2 ok rfl ?_
          refine s_iast ok rfl (by exact rfl) (by exact rfl) (by omega) (by omega) (fun q => by cases q) ?_
          refine s_ldI3 ok rfl ?_
          refine s_retI ok rfl ⟨congrArg (fun z => some (Value.int (iI z))) (if_pos (show sRu t b by have z1 := zif_t c6; have z2 := zif_t c35; omega)).symm, congrArg (fun z => zJ (k, z, r, l, n)) (if_pos (show sRu t b by have z1 := zif_t c6; have z2 := zif_t c35; omega)).symm⟩
