/-! takes, refund, base, run, wrongRow, wrongKept, count -/
theorem pTk_zb {p : Int → Int} {t b : Int} : pTk p t b = 0 ∨ pTk p t b = 1 := by
  unfold pTk kTk
  (repeat' split) <;> omega
theorem ct_takes {E : zE} {d : Nat} {k : Nat → Nat × Nat} {h : Nat → Int → Int} {r : Nat → Int → Option Nat} {l : Nat → Nat → Int64} {n : Nat} (hp : pOK (h 60)) {t b : Int} (zt : zb t) (z2 : zb b) : zCT E (d + 2) M_X12_takes [.ref 59, .int (iI (t)), .int (iI (b))] (zJ (k, h, r, l, n)) 0 0 (zV (.int (iI (if (0 ≤ t ∧ t < h 60 6) ∧ (0 ≤ b ∧ b < 3) then pTk (h 60) t b else -1))) (zJ (k, h, r, l, n))) := by
  have ok := ok_X12_takes
  refine zCT_of pn_X12_takes (Nat.le_of_ble_eq_true rfl) ?_
  show zGo _ _ _ _ _ _ 0 ([some (.ref 59), some (.int (iI (t))), some (.int (iI (b)))], [], _, _, _)
  refine s_ldA0 ok rfl ?_
  refine s_ldI1 ok rfl ?_
  refine s_callV ok rfl rfl rfl rfl rfl rfl (ct_isTraveller hp zt) ?_
  refine s_if_eq ok rfl zif01 (fun c5 => ?_) (fun c5 => ?_)
  · refine s_ci ok rfl ?_
    refine s_retI ok rfl ⟨congrArg (fun z => some (Value.int (iI z))) (by first | exact (if_neg (fun q => by first | exact zif_f c12 q.2 | exact zif_f c5 q.1)).symm | (rw [if_pos (And.intro yt yb)]; omega)), rfl⟩
  · refine s_ldI2 ok rfl ?_
    refine s_callS ok rfl rfl rfl rfl (ct_isDepth z2) ?_
    refine s_if_eq ok rfl zif01 (fun c12 => ?_) (fun c12 => ?_)
    · refine s_ci ok rfl ?_
      refine s_retI ok rfl ⟨congrArg (fun z => some (Value.int (iI z))) (by first | exact (if_neg (fun q => by first | exact zif_f c12 q.2 | exact zif_f c5 q.1)).symm | (rw [if_pos (And.intro yt yb)]; omega)), rfl⟩
    · have yt := zif_t c5
      have t1 : t < 8 := by have := hp.2.2.2.2.2.2.2.2.2.2.2.2.2.1; omega
      have yb := zif_t c12
      have tk := pTk_zb (p := h 60) (t := t) (b := b)
      refine s_ldA0 ok rfl ?_
      refine s_ldI1 ok rfl ?_
      refine s_ldI2 ok rfl ?_
      refine s_callV ok rfl rfl rfl rfl rfl rfl (ct_wouldTake hp yt.1 t1 yb.1 yb.2) ?_
      refine s_if_eq ok rfl (by first | exact hb _ _ | exact ⟨by omega, by omega⟩) (fun c21 => ?_) (fun c21 => ?_)
      · refine s_ci ok rfl ?_
        refine s_goto ok rfl ?_
        refine s_retI ok rfl ⟨congrArg (fun z => some (Value.int (iI z))) (by first | exact (if_neg (fun q => by first | exact zif_f c12 q.2 | exact zif_f c5 q.1)).symm | (rw [if_pos (And.intro yt yb)]; omega)), rfl⟩
      · refine s_ci ok rfl ?_
        refine s_goto ok rfl ?_
        refine s_retI ok rfl ⟨congrArg (fun z => some (Value.int (iI z))) (by first | exact (if_neg (fun q => by first | exact zif_f c12 q.2 | exact zif_f c5 q.1)).symm | (rw [if_pos (And.intro yt yb)]; omega)), rfl⟩
theorem ct_refund {E : zE} {d : Nat} {k : Nat → Nat × Nat} {h : Nat → Int → Int} {r : Nat → Int → Option Nat} {l : Nat → Nat → Int64} {n : Nat} (hp : pOK (h 60)) {t b : Int} (zt : zb t) (z2 : zb b) : zCT E (d + 2) M_X12_refund [.ref 59, .int (iI (t)), .int (iI (b))] (zJ (k, h, r, l, n)) 0 0 (zV (.int (iI (if (0 ≤ t ∧ t < h 60 6) ∧ (0 ≤ b ∧ b < 3) then pRf (h 60) t b else -1))) (zJ (k, h, r, l, n))) := by
  have ok := ok_X12_refund
  refine zCT_of pn_X12_refund (Nat.le_of_ble_eq_true rfl) ?_
  show zGo _ _ _ _ _ _ 0 ([some (.ref 59), some (.int (iI (t))), some (.int (iI (b)))], [], _, _, _)
  refine s_ldA0 ok rfl ?_
  refine s_ldI1 ok rfl ?_
  refine s_callV ok rfl rfl rfl rfl rfl rfl (ct_isTraveller hp zt) ?_
  refine s_if_eq ok rfl zif01 (fun c5 => ?_) (fun c5 => ?_)
  · refine s_ci ok rfl ?_
    refine s_retI ok rfl ⟨congrArg (fun z => some (Value.int (iI z))) (by first | exact (if_neg (fun q => by first | exact zif_f c12 q.2 | exact zif_f c5 q.1)).symm | exact (if_pos (And.intro yt yb)).symm), rfl⟩
  · refine s_ldI2 ok rfl ?_
    refine s_callS ok rfl rfl rfl rfl (ct_isDepth z2) ?_
    refine s_if_eq ok rfl zif01 (fun c12 => ?_) (fun c12 => ?_)
    · refine s_ci ok rfl ?_
      refine s_retI ok rfl ⟨congrArg (fun z => some (Value.int (iI z))) (by first | exact (if_neg (fun q => by first | exact zif_f c12 q.2 | exact zif_f c5 q.1)).symm | exact (if_pos (And.intro yt yb)).symm), rfl⟩
    · have yt := zif_t c5
      have t1 : t < 8 := by have := hp.2.2.2.2.2.2.2.2.2.2.2.2.2.1; omega
      have yb := zif_t c12
      refine s_ldA0 ok rfl ?_
      refine s_ldI1 ok rfl ?_
      refine s_ldI2 ok rfl ?_
      refine s_callV ok rfl rfl rfl rfl rfl rfl (ct_refundOf hp yt.1 t1 yb.1 yb.2) ?_
      refine s_goto ok rfl ?_
      refine s_retI ok rfl ⟨congrArg (fun z => some (Value.int (iI z))) (by first | exact (if_neg (fun q => by first | exact zif_f c12 q.2 | exact zif_f c5 q.1)).symm | exact (if_pos (And.intro yt yb)).symm), rfl⟩
theorem ct_base {E : zE} {d : Nat} {k : Nat → Nat × Nat} {h : Nat → Int → Int} {r : Nat → Int → Option Nat} {l : Nat → Nat → Int64} {n : Nat} (hp : pOK (h 60)) {t b : Int} (zt : zb t) (z2 : zb b) : zCT E (d + 2) M_X12_base [.ref 59, .int (iI (t)), .int (iI (b))] (zJ (k, h, r, l, n)) 0 0 (zV (.int (iI (if (0 ≤ t ∧ t < h 60 6) ∧ (0 ≤ b ∧ b ≤ 300) then pBa (h 60) t else -1))) (zJ (k, (if (0 ≤ t ∧ t < h 60 6) ∧ (0 ≤ b ∧ b ≤ 300) then zv h 60 (19 + 5 * t + 4) b else h), r, l, n))) := by
  have ok := ok_X12_base
  refine zCT_of pn_X12_base (Nat.le_of_ble_eq_true rfl) ?_
  show zGo _ _ _ _ _ _ 0 ([some (.ref 59), some (.int (iI (t))), some (.int (iI (b))), none], [], _, _, _)
  refine s_ldA0 ok rfl ?_
  refine s_ldI1 ok rfl ?_
  refine s_callV ok rfl rfl rfl rfl rfl rfl (ct_isTraveller hp zt) ?_
  refine s_if_eq ok rfl zif01 (fun c5 => ?_) (fun c5 => ?_)
  · refine s_ci ok rfl ?_
    refine s_retI ok rfl ⟨congrArg (fun z => some (Value.int (iI z))) (if_neg (fun q => by first | exact zif_f c16 q.2 | exact zif_f c5 q.1)).symm, congrArg (fun z => zJ (k, z, r, l, n)) (if_neg (fun q => by first | exact zif_f c16 q.2 | exact zif_f c5 q.1)).symm⟩
  · refine s_ldI2 ok rfl ?_
    refine s_ci ok rfl ?_
    refine s_ci ok rfl ?_
    refine s_callS ok rfl rfl rfl rfl (ct_isIn z2 ⟨by omega, by omega⟩ ⟨by omega, by omega⟩) ?_
    refine s_if_eq ok rfl zif01 (fun c16 => ?_) (fun c16 => ?_)
    · refine s_ci ok rfl ?_
      refine s_retI ok rfl ⟨congrArg (fun z => some (Value.int (iI z))) (if_neg (fun q => by first | exact zif_f c16 q.2 | exact zif_f c5 q.1)).symm, congrArg (fun z => zJ (k, z, r, l, n)) (if_neg (fun q => by first | exact zif_f c16 q.2 | exact zif_f c5 q.1)).symm⟩
    · have yt := zif_t c5
      have t1 : t < 8 := by have := hp.2.2.2.2.2.2.2.2.2.2.2.2.2.1; omega
      have yb := zif_t c16
      refine s_ldA0 ok rfl ?_
      refine s_ldI1 ok rfl ?_
      refine s_callV ok rfl rfl rfl rfl rfl rfl (ct_baseOf yt.1 t1) ?_
      refine s_stI3 ok rfl rfl ?_
      refine s_ldA0 ok rfl ?_
      refine s_getF ok rfl rfl rfl rfl ?_
      refine s_ci ok rfl ?_
      refine s_ci ok rfl ?_
      refine s_ldI1 ok rfl ?_
      refine s_mul ok rfl ?_
      refine s_add ok rfl ?_
      refine s_ci ok rfl ?_
      refine s_add ok rfl ?_
      refine s_ldI2 ok rfl ?_
      refine s_iast ok rfl (by exact rfl) (by exact rfl) (by omega) (by omega) (fun q => by cases q) ?_
      refine s_ldI3 ok rfl ?_
      refine s_retI ok rfl ⟨congrArg (fun z => some (Value.int (iI z))) (if_pos (And.intro yt yb)).symm, congrArg (fun z => zJ (k, z, r, l, n)) (if_pos (And.intro yt yb)).symm⟩
theorem ct_run {E : zE} {d : Nat} {k : Nat → Nat × Nat} {h : Nat → Int → Int} {r : Nat → Int → Option Nat} {l : Nat → Nat → Int64} {n : Nat} {t b : Int} (zt : zb t) (z2 : zb b) : zCT E (d + 1) M_X12_run [.ref 59, .int (iI (t)), .int (iI (b))] (zJ (k, h, r, l, n)) 0 0 (zV (.int (iI (if (0 ≤ t ∧ t ≤ 3) ∧ (1 ≤ b ∧ b ≤ 60) then h 60 (7 + t) else -1))) (zJ (k, (if (0 ≤ t ∧ t ≤ 3) ∧ (1 ≤ b ∧ b ≤ 60) then zv h 60 (7 + t) b else h), r, l, n))) := by
  have ok := ok_X12_run
  refine zCT_of pn_X12_run (Nat.le_of_ble_eq_true rfl) ?_
  show zGo _ _ _ _ _ _ 0 ([some (.ref 59), some (.int (iI (t))), some (.int (iI (b))), none], [], _, _, _)
  refine s_ldI1 ok rfl ?_
  refine s_ci ok rfl ?_
  refine s_ci ok rfl ?_
  refine s_callS ok rfl rfl rfl rfl (ct_isIn zt ⟨by omega, by omega⟩ ⟨by omega, by omega⟩) ?_
  refine s_if_eq ok rfl zif01 (fun c6 => ?_) (fun c6 => ?_)
  · refine s_ci ok rfl ?_
    refine s_retI ok rfl ⟨congrArg (fun z => some (Value.int (iI z))) (if_neg (fun q => by first | exact zif_f c16 q.2 | exact zif_f c6 q.1)).symm, congrArg (fun z => zJ (k, z, r, l, n)) (if_neg (fun q => by first | exact zif_f c16 q.2 | exact zif_f c6 q.1)).symm⟩
  · refine s_ldI2 ok rfl ?_
    refine s_ci ok rfl ?_
    refine s_ci ok rfl ?_
    refine s_callS ok rfl rfl rfl rfl (ct_isIn z2 ⟨by omega, by omega⟩ ⟨by omega, by omega⟩) ?_
    refine s_if_eq ok rfl zif01 (fun c16 => ?_) (fun c16 => ?_)
    · refine s_ci ok rfl ?_
      refine s_retI ok rfl ⟨congrArg (fun z => some (Value.int (iI z))) (if_neg (fun q => by first | exact zif_f c16 q.2 | exact zif_f c6 q.1)).symm, congrArg (fun z => zJ (k, z, r, l, n)) (if_neg (fun q => by first | exact zif_f c16 q.2 | exact zif_f c6 q.1)).symm⟩
    · have yt := zif_t c6
      have yb := zif_t c16
      refine s_ldA0 ok rfl ?_
      refine s_getF ok rfl rfl rfl rfl ?_
      refine s_ci ok rfl ?_
      refine s_ldI1 ok rfl ?_
      refine s_add ok rfl ?_
      refine s_iald ok rfl (by exact rfl) (by exact rfl) (by omega) (by omega) ?_
      refine s_stI3 ok rfl rfl ?_
      refine s_ldA0 ok rfl ?_
      refine s_getF ok rfl rfl rfl rfl ?_
      refine s_ci ok rfl ?_
      refine s_ldI1 ok rfl ?_
      refine s_add ok rfl ?_
      refine s_ldI2 ok rfl ?_
      refine s_iast ok rfl (by exact rfl) (by exact rfl) (by omega) (by omega) (fun q => by cases q) ?_
      refine s_ldI3 ok rfl ?_
      refine s_retI ok rfl ⟨congrArg (fun z => some (Value.int (iI z))) (if_pos (And.intro yt yb)).symm, congrArg (fun z => zJ (k, z, r, l, n)) (if_pos (And.intro yt yb)).symm⟩
/-- what is wrong with the shelf t as one that holds a row of the sort b (any sort, if b is below zero) -/
def sWR (h : Nat → Int → Int) (t b : Int) : Int := if ¬ (0 ≤ t ∧ t < 8) then -1 else if h 80 t = 0 then -11 else if ¬ h 80 t = 2 then -12 else if 0 ≤ b ∧ ¬ h 83 t = b then -12 else 0
/-- what is wrong with the shelf t as one that holds a traveller -/
def sWK (h : Nat → Int → Int) (t : Int) : Int := if ¬ (0 ≤ t ∧ t < 8) then -1 else if h 80 t = 0 then -11 else if h 80 t = 2 then -12 else 0
theorem ct_wrongRow {E : zE} {d : Nat} {k : Nat → Nat × Nat} {h : Nat → Int → Int} {r : Nat → Int → Option Nat} {l : Nat → Nat → Int64} {n : Nat} {t b : Int} (zt : zb t) (z2 : zb b) (z80 : ∀ j, zb (h 80 j)) (z83 : ∀ j, zb (h 83 j)) : zCT E (d + 2) M_X12_wrongRow [.ref 59, .int (iI (t)), .int (iI (b))] (zJ (k, h, r, l, n)) 0 0 (zV (.int (iI (sWR h t b))) (zJ (k, h, r, l, n))) := by
  have ok := ok_X12_wrongRow
  refine zCT_of pn_X12_wrongRow (Nat.le_of_ble_eq_true rfl) ?_
  show zGo _ _ _ _ _ _ 0 ([some (.ref 59), some (.int (iI (t))), some (.int (iI (b)))], [], _, _, _)
  refine s_ldI1 ok rfl ?_
  refine s_callS ok rfl rfl rfl rfl (ct_isShelf zt) ?_
  refine s_if_eq ok rfl zif01 (fun c4 => ?_) (fun c4 => ?_)
  · refine s_ci ok rfl ?_
    refine s_goto ok rfl ?_
    refine s_retI ok rfl ⟨congrArg (fun z => some (Value.int (iI z))) (by unfold sWR; first | exact (if_pos (zif_f c4)).symm | (rw [if_neg (fun q => q yt)]; (repeat (first | rw [if_pos (by omega)] | rw [if_neg (by omega)])); done)), rfl⟩
  · have yt := zif_t (c := 0 ≤ t ∧ t < 8) c4
    refine s_ldA0 ok rfl ?_
    refine s_getF ok rfl rfl rfl rfl ?_
    refine s_ldI1 ok rfl ?_
    refine s_iald ok rfl (by exact rfl) (by exact rfl) (by omega) (by omega) ?_
    refine s_if_eq ok rfl (z80 t) (fun c17 => ?_) (fun c17 => ?_)
    · refine s_ci ok rfl ?_
      refine s_goto ok rfl ?_
      refine s_retI ok rfl ⟨congrArg (fun z => some (Value.int (iI z))) (by unfold sWR; first | exact (if_pos (zif_f c4)).symm | (rw [if_neg (fun q => q yt)]; (repeat (first | rw [if_pos (by omega)] | rw [if_neg (by omega)])); done)), rfl⟩
    · refine s_ldA0 ok rfl ?_
      refine s_getF ok rfl rfl rfl rfl ?_
      refine s_ldI1 ok rfl ?_
      refine s_iald ok rfl (by exact rfl) (by exact rfl) (by omega) (by omega) ?_
      refine s_ci ok rfl ?_
      refine s_c_eq ok rfl (z80 t) ⟨by omega, by omega⟩ (fun c32 => ?_) (fun c32 => ?_)
      · refine s_ldI2 ok rfl ?_
        refine s_if_lt ok rfl z2 (fun c36 => ?_) (fun c36 => ?_)
        · refine s_ci ok rfl ?_
          refine s_retI ok rfl ⟨congrArg (fun z => some (Value.int (iI z))) (by unfold sWR; first | exact (if_pos (zif_f c4)).symm | (rw [if_neg (fun q => q yt)]; (repeat (first | rw [if_pos (by omega)] | rw [if_neg (by omega)])); done)), rfl⟩
        · refine s_ldA0 ok rfl ?_
          refine s_getF ok rfl rfl rfl rfl ?_
          refine s_ldI1 ok rfl ?_
          refine s_iald ok rfl (by exact rfl) (by exact rfl) (by omega) (by omega) ?_
          refine s_ldI2 ok rfl ?_
          refine s_c_eq ok rfl (z83 t) z2 (fun c46 => ?_) (fun c46 => ?_)
          · refine s_ci ok rfl ?_
            refine s_retI ok rfl ⟨congrArg (fun z => some (Value.int (iI z))) (by unfold sWR; first | exact (if_pos (zif_f c4)).symm | (rw [if_neg (fun q => q yt)]; (repeat (first | rw [if_pos (by omega)] | rw [if_neg (by omega)])); done)), rfl⟩
          · refine s_ci ok rfl ?_
            refine s_goto ok rfl ?_
            refine s_retI ok rfl ⟨congrArg (fun z => some (Value.int (iI z))) (by unfold sWR; first | exact (if_pos (zif_f c4)).symm | (rw [if_neg (fun q => q yt)]; (repeat (first | rw [if_pos (by omega)] | rw [if_neg (by omega)])); done)), rfl⟩
      · refine s_ci ok rfl ?_
        refine s_goto ok rfl ?_
        refine s_retI ok rfl ⟨congrArg (fun z => some (Value.int (iI z))) (by unfold sWR; first | exact (if_pos (zif_f c4)).symm | (rw [if_neg (fun q => q yt)]; (repeat (first | rw [if_pos (by omega)] | rw [if_neg (by omega)])); done)), rfl⟩
theorem ct_wrongKept {E : zE} {d : Nat} {k : Nat → Nat × Nat} {h : Nat → Int → Int} {r : Nat → Int → Option Nat} {l : Nat → Nat → Int64} {n : Nat} {t : Int} (zt : zb t) (z80 : ∀ j, zb (h 80 j)) : zCT E (d + 2) M_X12_wrongKept [.ref 59, .int (iI (t))] (zJ (k, h, r, l, n)) 0 0 (zV (.int (iI (sWK h t))) (zJ (k, h, r, l, n))) := by
  have ok := ok_X12_wrongKept
  refine zCT_of pn_X12_wrongKept (Nat.le_of_ble_eq_true rfl) ?_
  show zGo _ _ _ _ _ _ 0 ([some (.ref 59), some (.int (iI (t)))], [], _, _, _)
  refine s_ldI1 ok rfl ?_
  refine s_callS ok rfl rfl rfl rfl (ct_isShelf zt) ?_
  refine s_if_eq ok rfl zif01 (fun c4 => ?_) (fun c4 => ?_)
  · refine s_ci ok rfl ?_
    refine s_goto ok rfl ?_
    refine s_retI ok rfl ⟨congrArg (fun z => some (Value.int (iI z))) (by unfold sWK; first | exact (if_pos (zif_f c4)).symm | (rw [if_neg (fun q => q yt)]; (repeat (first | rw [if_pos (by omega)] | rw [if_neg (by omega)])); done)), rfl⟩
  · have yt := zif_t (c := 0 ≤ t ∧ t < 8) c4
    refine s_ldA0 ok rfl ?_
    refine s_getF ok rfl rfl rfl rfl ?_
    refine s_ldI1 ok rfl ?_
    refine s_iald ok rfl (by exact rfl) (by exact rfl) (by omega) (by omega) ?_
    refine s_if_eq ok rfl (z80 t) (fun c17 => ?_) (fun c17 => ?_)
    · refine s_ci ok rfl ?_
      refine s_goto ok rfl ?_
      refine s_retI ok rfl ⟨congrArg (fun z => some (Value.int (iI z))) (by unfold sWK; first | exact (if_pos (zif_f c4)).symm | (rw [if_neg (fun q => q yt)]; (repeat (first | rw [if_pos (by omega)] | rw [if_neg (by omega)])); done)), rfl⟩
    · refine s_ldA0 ok rfl ?_
      refine s_getF ok rfl rfl rfl rfl ?_
      refine s_ldI1 ok rfl ?_
      refine s_iald ok rfl (by exact rfl) (by exact rfl) (by omega) (by omega) ?_
      refine s_ci ok rfl ?_
      refine s_c_eq ok rfl (z80 t) ⟨by omega, by omega⟩ (fun c32 => ?_) (fun c32 => ?_)
      · refine s_ci ok rfl ?_
        refine s_goto ok rfl ?_
        refine s_retI ok rfl ⟨congrArg (fun z => some (Value.int (iI z))) (by unfold sWK; first | exact (if_pos (zif_f c4)).symm | (rw [if_neg (fun q => q yt)]; (repeat (first | rw [if_pos (by omega)] | rw [if_neg (by omega)])); done)), rfl⟩
      · refine s_ci ok rfl ?_
        refine s_retI ok rfl ⟨congrArg (fun z => some (Value.int (iI z))) (by unfold sWK; first | exact (if_pos (zif_f c4)).symm | (rw [if_neg (fun q => q yt)]; (repeat (first | rw [if_pos (by omega)] | rw [if_neg (by omega)])); done)), rfl⟩
