/-! about, count -/
theorem ct_about {E : zE} {d : Nat} {k : Nat → Nat × Nat} {h : Nat → Int → Int} {r : Nat → Int → Option Nat} {l : Nat → Nat → Int64} {n : Nat} (hp : pOK (h 60)) {t b : Int} (zt : zb t) (z2 : zb b) : zCT E (d + 2) M_X12_about [.ref 59, .int (iI (t)), .int (iI (b))] (zJ (k, h, r, l, n)) 0 0 (zV (.int (iI (if (0 ≤ t ∧ t < h 60 0) ∧ (0 ≤ b ∧ b ≤ 2) then (if b < 2 then h 60 (11 + 2 * t + b) else zbt (h 60 1) t) else -1))) (zJ (k, h, r, l, n))) := by
  have ok := ok_X12_about
  refine zCT_of pn_X12_about (Nat.le_of_ble_eq_true rfl) ?_
  show zGo _ _ _ _ _ _ 0 ([some (.ref 59), some (.int (iI (t))), some (.int (iI (b)))], [], _, _, _)
  refine s_ldA0 ok rfl ?_
  refine s_ldI1 ok rfl ?_
  refine s_callV ok rfl rfl rfl rfl rfl rfl (ct_isTrain hp zt) ?_
  refine s_if_eq ok rfl zif01 (fun c5 => ?_) (fun c5 => ?_)
  · refine s_ci ok rfl ?_
    refine s_retI ok rfl ⟨congrArg (fun z => some (Value.int (iI z))) (by first | exact (if_neg (fun q => by first | exact zif_f c14 q.2 | exact zif_f c5 q.1)).symm | exact ((if_pos (And.intro yt yb)).trans (if_pos (by omega))).symm | (rw [if_pos (And.intro yt yb), if_neg (by omega)]; omega)), rfl⟩
  · refine s_ldI2 ok rfl ?_
    refine s_ci ok rfl ?_
    refine s_ci ok rfl ?_
    refine s_callS ok rfl rfl rfl rfl (ct_isIn z2 ⟨by omega, by omega⟩ ⟨by omega, by omega⟩) ?_
    refine s_if_eq ok rfl zif01 (fun c14 => ?_) (fun c14 => ?_)
    · refine s_ci ok rfl ?_
      refine s_retI ok rfl ⟨congrArg (fun z => some (Value.int (iI z))) (by first | exact (if_neg (fun q => by first | exact zif_f c14 q.2 | exact zif_f c5 q.1)).symm | exact ((if_pos (And.intro yt yb)).trans (if_pos (by omega))).symm | (rw [if_pos (And.intro yt yb), if_neg (by omega)]; omega)), rfl⟩
    · have yt := zif_t c5
      have yb := zif_t c14
      have o1 := hp.2.1
      have m0 := hp.2.2.1
      have m1 := hp.2.2.2.1
      have bb := zbt_01 (m := h 60 1) (k := t)
      refine s_ldI2 ok rfl ?_
      refine s_ci ok rfl ?_
      refine s_c_ge ok rfl z2 ⟨by omega, by omega⟩ (fun c21 => ?_) (fun c21 => ?_)
      · refine s_ldA0 ok rfl ?_
        refine s_getF ok rfl rfl rfl rfl ?_
        refine s_ci ok rfl ?_
        refine s_iald ok rfl (by exact rfl) (by exact rfl) (by omega) (by omega) ?_
        refine s_ldI1 ok rfl ?_
        refine s_callS ok rfl rfl rfl rfl (ct_has m0 (by omega) yt.1 (by omega)) ?_
        refine s_if_eq ok rfl ⟨by omega, by omega⟩ (fun c50 => ?_) (fun c50 => ?_)
        · refine s_ci ok rfl ?_
          refine s_retI ok rfl ⟨congrArg (fun z => some (Value.int (iI z))) (by first | exact (if_neg (fun q => by first | exact zif_f c14 q.2 | exact zif_f c5 q.1)).symm | exact ((if_pos (And.intro yt yb)).trans (if_pos (by omega))).symm | (rw [if_pos (And.intro yt yb), if_neg (by omega)]; omega)), rfl⟩
        · refine s_ci ok rfl ?_
          refine s_goto ok rfl ?_
          refine s_retI ok rfl ⟨congrArg (fun z => some (Value.int (iI z))) (by first | exact (if_neg (fun q => by first | exact zif_f c14 q.2 | exact zif_f c5 q.1)).symm | exact ((if_pos (And.intro yt yb)).trans (if_pos (by omega))).symm | (rw [if_pos (And.intro yt yb), if_neg (by omega)]; omega)), rfl⟩
      · refine s_ldA0 ok rfl ?_
        refine s_getF ok rfl rfl rfl rfl ?_
        refine s_ci ok rfl ?_
        refine s_ci ok rfl ?_
        refine s_ldI1 ok rfl ?_
        refine s_mul ok rfl ?_
        refine s_add ok rfl ?_
        refine s_ldI2 ok rfl ?_
        refine s_add ok rfl ?_
        refine s_iald ok rfl (by exact rfl) (by exact rfl) (by omega) (by omega) ?_
        refine s_goto ok rfl ?_
        refine s_retI ok rfl ⟨congrArg (fun z => some (Value.int (iI z))) (by first | exact (if_neg (fun q => by first | exact zif_f c14 q.2 | exact zif_f c5 q.1)).symm | exact ((if_pos (And.intro yt yb)).trans (if_pos (by omega))).symm | (rw [if_pos (And.intro yt yb), if_neg (by omega)]; omega)), rfl⟩
def sCo (p : Int → Int) (a : Int) : Int := if a = 0 then p 6 else if a = 1 then p 0 else if a = 2 then p 1 else if 3 ≤ a ∧ a ≤ 6 then p (2 + a - 3) else if a = 7 then p 7 + p 8 + p 9 + p 10 else -1
theorem ct_count {E : zE} {d : Nat} {k : Nat → Nat × Nat} {h : Nat → Int → Int} {r : Nat → Int → Option Nat} {l : Nat → Nat → Int64} {n : Nat} {a : Int} (za : zb a) : zCT E d M_X12_count [.ref 59, .int (iI (a))] (zJ (k, h, r, l, n)) 0 0 (zV (.int (iI (sCo (h 60) a))) (zJ (k, h, r, l, n))) := by
  have ok := ok_X12_count
  refine zCT_of pn_X12_count (Nat.le_of_ble_eq_true rfl) ?_
  show zGo _ _ _ _ _ _ 0 ([some (.ref 59), some (.int (iI (a)))], [], _, _, _)
  refine s_ldI1 ok rfl ?_
  refine s_sw ok rfl ?_
  refine zsw_c za (by first | exact hb _ _ | exact ⟨by omega, by omega⟩) (fun c1 => ?_) (fun c1_0 => ?_)
  · refine s_ldA0 ok rfl ?_
    refine s_getF ok rfl rfl rfl rfl ?_
    refine s_ci ok rfl ?_
    refine s_iald ok rfl (by exact rfl) (by exact rfl) (by omega) (by omega) ?_
    refine s_retI ok rfl ⟨congrArg (fun z => some (Value.int (iI z))) (by unfold sCo; (repeat (first | rw [if_pos (by omega)] | rw [if_neg (by omega)])); done), rfl⟩
  refine zsw_c za (by first | exact hb _ _ | exact ⟨by omega, by omega⟩) (fun c1 => ?_) (fun c1_1 => ?_)
  · refine s_ldA0 ok rfl ?_
    refine s_getF ok rfl rfl rfl rfl ?_
    refine s_ci ok rfl ?_
    refine s_iald ok rfl (by exact rfl) (by exact rfl) (by omega) (by omega) ?_
    refine s_retI ok rfl ⟨congrArg (fun z => some (Value.int (iI z))) (by unfold sCo; (repeat (first | rw [if_pos (by omega)] | rw [if_neg (by omega)])); done), rfl⟩
  refine zsw_c za (by first | exact hb _ _ | exact ⟨by omega, by omega⟩) (fun c1 => ?_) (fun c1_2 => ?_)
  · refine s_ldA0 ok rfl ?_
    refine s_getF ok rfl rfl rfl rfl ?_
    refine s_ci ok rfl ?_
    refine s_iald ok rfl (by exact rfl) (by exact rfl) (by omega) (by omega) ?_
    refine s_retI ok rfl ⟨congrArg (fun z => some (Value.int (iI z))) (by unfold sCo; (repeat (first | rw [if_pos (by omega)] | rw [if_neg (by omega)])); done), rfl⟩
  refine zsw_c za (by first | exact hb _ _ | exact ⟨by omega, by omega⟩) (fun c1 => ?_) (fun c1_3 => ?_)
  · refine s_ldA0 ok rfl ?_
    refine s_getF ok rfl rfl rfl rfl ?_
    refine s_ci ok rfl ?_
    refine s_ldI1 ok rfl ?_
    refine s_add ok rfl ?_
    refine s_ci ok rfl ?_
    refine s_sub ok rfl ?_
    refine s_iald ok rfl (by exact rfl) (by exact rfl) (by omega) (by omega) ?_
    refine s_retI ok rfl ⟨congrArg (fun z => some (Value.int (iI z))) (by unfold sCo; (repeat (first | rw [if_pos (by omega)] | rw [if_neg (by omega)])); done), rfl⟩
  refine zsw_c za (by first | exact hb _ _ | exact ⟨by omega, by omega⟩) (fun c1 => ?_) (fun c1_4 => ?_)
  · refine s_ldA0 ok rfl ?_
    refine s_getF ok rfl rfl rfl rfl ?_
    refine s_ci ok rfl ?_
    refine s_ldI1 ok rfl ?_
    refine s_add ok rfl ?_
    refine s_ci ok rfl ?_
    refine s_sub ok rfl ?_
    refine s_iald ok rfl (by exact rfl) (by exact rfl) (by omega) (by omega) ?_
    refine s_retI ok rfl ⟨congrArg (fun z => some (Value.int (iI z))) (by unfold sCo; (repeat (first | rw [if_pos (by omega)] | rw [if_neg (by omega)])); done), rfl⟩
  refine zsw_c za (by first | exact hb _ _ | exact ⟨by omega, by omega⟩) (fun c1 => ?_) (fun c1_5 => ?_)
  · refine s_ldA0 ok rfl ?_
    refine s_getF ok rfl rfl rfl rfl ?_
    refine s_ci ok rfl ?_
    refine s_ldI1 ok rfl ?_
    refine s_add ok rfl ?_
    refine s_ci ok rfl ?_
    refine s_sub ok rfl ?_
    refine s_iald ok rfl (by exact rfl) (by exact rfl) (by omega) (by omega) ?_
    refine s_retI ok rfl ⟨congrArg (fun z => some (Value.int (iI z))) (by unfold sCo; (repeat (first | rw [if_pos (by omega)] | rw [if_neg (by omega)])); done), rfl⟩
  refine zsw_c za (by first | exact hb _ _ | exact ⟨by omega, by omega⟩) (fun c1 => ?_) (fun c1_6 => ?_)
  · refine s_ldA0 ok rfl ?_
    refine s_getF ok rfl rfl rfl rfl ?_
    refine s_ci ok rfl ?_
    refine s_ldI1 ok rfl ?_
    refine s_add ok rfl ?_
    refine s_ci ok rfl ?_
    refine s_sub ok rfl ?_
    refine s_iald ok rfl (by exact rfl) (by exact rfl) (by omega) (by omega) ?_
    refine s_retI ok rfl ⟨congrArg (fun z => some (Value.int (iI z))) (by unfold sCo; (repeat (first | rw [if_pos (by omega)] | rw [if_neg (by omega)])); done), rfl⟩
  refine zsw_c za (by first | exact hb _ _ | exact ⟨by omega, by omega⟩) (fun c1 => ?_) (fun c1_7 => ?_)
  · refine s_ldA0 ok rfl ?_
    refine s_getF ok rfl rfl rfl rfl ?_
    refine s_ci ok rfl ?_
    refine s_iald ok rfl (by exact rfl) (by exact rfl) (by omega) (by omega) ?_
    refine s_ldA0 ok rfl ?_
    refine s_getF ok rfl rfl rfl rfl ?_
    refine s_ci ok rfl ?_
    refine s_iald ok rfl (by exact rfl) (by exact rfl) (by omega) (by omega) ?_
    refine s_add ok rfl ?_
    refine s_ldA0 ok rfl ?_
    refine s_getF ok rfl rfl rfl rfl ?_
    refine s_ci ok rfl ?_
    refine s_iald ok rfl (by exact rfl) (by exact rfl) (by omega) (by omega) ?_
    refine s_add ok rfl ?_
    refine s_ldA0 ok rfl ?_
    refine s_getF ok rfl rfl rfl rfl ?_
    refine s_ci ok rfl ?_
    refine s_iald ok rfl (by exact rfl) (by exact rfl) (by omega) (by omega) ?_
    refine s_add ok rfl ?_
    refine s_retI ok rfl ⟨congrArg (fun z => some (Value.int (iI z))) (by unfold sCo; (repeat (first | rw [if_pos (by omega)] | rw [if_neg (by omega)])); done), rfl⟩
  show zGo _ _ _ _ _ _ 113 _
  refine s_ci ok rfl ?_
  refine s_retI ok rfl ⟨congrArg (fun z => some (Value.int (iI z))) (by unfold sCo; (repeat (first | rw [if_pos (by omega)] | rw [if_neg (by omega)])); done), rfl⟩
