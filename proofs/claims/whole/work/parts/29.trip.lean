/-! together, when, aboard, fullest, ticketOf, leastOf, placeAt, odds -/
theorem ct_together {E : zE} {d : Nat} {k : Nat → Nat × Nat} {h : Nat → Int → Int} {r : Nat → Int → Option Nat} {l : Nat → Nat → Int64} {n : Nat} {p : Int → Int} {w dd : Int} (ep : h 60 = p) (ew : h 59 17 = w) (ed : h 59 18 = dd) (hd : dP h) (h2 : zb dd) {a b : Int} (za : zb a) (zc : zb b) : zCT E (d + 7) M_X12_together [.ref 59, .int (iI (a)), .int (iI (b))] (zJ (k, h, r, l, n)) 0 0 (zVx (.int (iI (if (0 ≤ a ∧ a < p 6) ∧ (0 ≤ b ∧ b < p 6) ∧ ¬ a = b then (if dN p w dd 69 a < 0 ∨ ¬ dN p w dd 69 a = dN p w dd 69 b then 0 else max 0 (min (dN p w dd 71 a) (dN p w dd 71 b) - max (dN p w dd 70 a) (dN p w dd 70 b))) else -1))) (zG k r l n (dE h))) := by
  have ok := ok_X12_together
  refine zCT_of pn_X12_together (Nat.le_of_ble_eq_true rfl) ?_
  show zGo _ _ _ _ _ _ 0 ([some (.ref 59), some (.int (iI (a))), some (.int (iI (b)))], [], _, _, _)
  subst ep
  subst ew
  subst ed
  refine s_ldA0 ok rfl ?_
  refine s_ldI1 ok rfl ?_
  refine s_callV ok rfl rfl rfl rfl rfl rfl (ct_isTraveller hd.1 za) ?_
  refine s_if_eq ok rfl zif01 (fun c5 => ?_) (fun c5 => ?_)
  · refine s_ci ok rfl ?_
    refine s_retI ok rfl ⟨congrArg (fun z => some (Value.int (iI z))) (if_neg (fun q => by first | exact q.2.2 c18 | exact zif_f c13 q.2.1 | exact zif_f c5 q.1)).symm, _, rfl, dE.rf hd⟩
  · refine s_ldA0 ok rfl ?_
    refine s_ldI2 ok rfl ?_
    refine s_callV ok rfl rfl rfl rfl rfl rfl (ct_isTraveller hd.1 zc) ?_
    refine s_if_eq ok rfl zif01 (fun c13 => ?_) (fun c13 => ?_)
    · refine s_ci ok rfl ?_
      refine s_retI ok rfl ⟨congrArg (fun z => some (Value.int (iI z))) (if_neg (fun q => by first | exact q.2.2 c18 | exact zif_f c13 q.2.1 | exact zif_f c5 q.1)).symm, _, rfl, dE.rf hd⟩
    · refine s_ldI1 ok rfl ?_
      refine s_ldI2 ok rfl ?_
      refine s_c_eq ok rfl za zc (fun c18 => ?_) (fun c18 => ?_)
      · refine s_ci ok rfl ?_
        refine s_retI ok rfl ⟨congrArg (fun z => some (Value.int (iI z))) (if_neg (fun q => by first | exact q.2.2 c18 | exact zif_f c13 q.2.1 | exact zif_f c5 q.1)).symm, _, rfl, dE.rf hd⟩
      · have ya := zif_t c5
        have yb := zif_t c13
        have p6 := hd.1.2.2.2.2.2.2.2.2.2.2.2.2.2.1
        have de := (day_eq hd).1
        have e69a : sGoes h 69 a = dN (h 60) (h 59 17) (h 59 18) 69 a := de 69 (by omega) (by omega) a ya.1 ya.2
        have e69b : sGoes h 69 b = dN (h 60) (h 59 17) (h 59 18) 69 b := de 69 (by omega) (by omega) b yb.1 yb.2
        have e70a : sGoes h 70 a = dN (h 60) (h 59 17) (h 59 18) 70 a := de 70 (by omega) (by omega) a ya.1 ya.2
        have e70b : sGoes h 70 b = dN (h 60) (h 59 17) (h 59 18) 70 b := de 70 (by omega) (by omega) b yb.1 yb.2
        have e71a : sGoes h 71 a = dN (h 60) (h 59 17) (h 59 18) 71 a := de 71 (by omega) (by omega) a ya.1 ya.2
        have e71b : sGoes h 71 b = dN (h 60) (h 59 17) (h 59 18) 71 b := de 71 (by omega) (by omega) b yb.1 yb.2
        have ba := dB_dN (dd := h 59 18) hd.1 hd.2.2.2.2 a
        have bb := dB_dN (dd := h 59 18) hd.1 hd.2.2.2.2 b
        have yc : (0 ≤ a ∧ a < h 60 6) ∧ (0 ≤ b ∧ b < h 60 6) ∧ ¬ a = b := ⟨ya, yb, c18⟩
        refine s_ldA0 ok rfl ?_
        refine s_callVv ok rfl rfl rfl rfl rfl rfl (ct_goes hd (by exact h2)) ?_
        refine s_ldA0 ok rfl ?_
        refine s_getF ok rfl rfl rfl rfl ?_
        refine s_ldI1 ok rfl ?_
        refine s_iald ok rfl (by exact rfl) (by exact rfl) (by omega) (by omega) ?_
        rw [e69a]
        refine s_if_lt ok rfl (by first | exact hb _ _ | exact ⟨by omega, by omega⟩) (fun c33 => ?_) (fun c33 => ?_)
        · refine s_ci ok rfl ?_
          refine s_retI ok rfl ⟨congrArg (fun z => some (Value.int (iI z))) ((if_pos yc).trans (if_pos (by omega))).symm, _, rfl, (dE_goes hd).1⟩
        · refine s_ldA0 ok rfl ?_
          refine s_getF ok rfl rfl rfl rfl ?_
          refine s_ldI1 ok rfl ?_
          refine s_iald ok rfl (by exact rfl) (by exact rfl) (by omega) (by omega) ?_
          rw [e69a]
          refine s_ldA0 ok rfl ?_
          refine s_getF ok rfl rfl rfl rfl ?_
          refine s_ldI2 ok rfl ?_
          refine s_iald ok rfl (by exact rfl) (by exact rfl) (by omega) (by omega) ?_
          rw [e69b]
          refine s_c_eq ok rfl (by first | exact hb _ _ | exact ⟨by omega, by omega⟩) (by first | exact hb _ _ | exact ⟨by omega, by omega⟩) (fun c48 => ?_) (fun c48 => ?_)
          · refine s_ci ok rfl ?_
            refine s_ldA0 ok rfl ?_
            refine s_getF ok rfl rfl rfl rfl ?_
            refine s_ldI1 ok rfl ?_
            refine s_iald ok rfl (by exact rfl) (by exact rfl) (by omega) (by omega) ?_
            rw [e71a]
            refine s_ldA0 ok rfl ?_
            refine s_getF ok rfl rfl rfl rfl ?_
            refine s_ldI2 ok rfl ?_
            refine s_iald ok rfl (by exact rfl) (by exact rfl) (by omega) (by omega) ?_
            rw [e71b]
            refine s_callS ok rfl rfl rfl rfl (ct_least ⟨by omega, by omega⟩ ⟨by omega, by omega⟩) ?_
            refine s_ldA0 ok rfl ?_
            refine s_getF ok rfl rfl rfl rfl ?_
            refine s_ldI1 ok rfl ?_
            refine s_iald ok rfl (by exact rfl) (by exact rfl) (by omega) (by omega) ?_
            rw [e70a]
            refine s_ldA0 ok rfl ?_
            refine s_getF ok rfl rfl rfl rfl ?_
            refine s_ldI2 ok rfl ?_
            refine s_iald ok rfl (by exact rfl) (by exact rfl) (by omega) (by omega) ?_
            rw [e70b]
            refine s_callS ok rfl rfl rfl rfl (ct_most ⟨by omega, by omega⟩ ⟨by omega, by omega⟩) ?_
            refine s_sub ok rfl ?_
            refine s_callS ok rfl rfl rfl rfl (ct_most ⟨by omega, by omega⟩ ⟨by omega, by omega⟩) ?_
            refine s_retI ok rfl ⟨congrArg (fun z => some (Value.int (iI z))) ((if_pos yc).trans (if_neg (by omega))).symm, _, rfl, (dE_goes hd).1⟩
          · refine s_ci ok rfl ?_
            refine s_retI ok rfl ⟨congrArg (fun z => some (Value.int (iI z))) ((if_pos yc).trans (if_pos (by omega))).symm, _, rfl, (dE_goes hd).1⟩
theorem ct_when {E : zE} {d : Nat} {k : Nat → Nat × Nat} {h : Nat → Int → Int} {r : Nat → Int → Option Nat} {l : Nat → Nat → Int64} {n : Nat} {p : Int → Int} {w : Int} (ep : h 60 = p) (ew : h 59 17 = w) (ed : h 59 18 = 3) (hd : dP h) {a b c : Int} (za : zb a) (zc : zb b) (ze : zb c) : zCT E (d + 7) M_X12_when [.ref 59, .int (iI (a)), .int (iI (b)), .int (iI (c))] (zJ (k, h, r, l, n)) 0 0 (zVx (.int (iI (if (0 ≤ a ∧ a < p 0) ∧ (0 ≤ b ∧ b < 3) ∧ (0 ≤ c ∧ c ≤ 4) then dN p w 3 67 (5 * (3 * a + b) + c) else -1))) (zG k r l n (dE h))) := by
  have ok := ok_X12_when
  refine zCT_of pn_X12_when (Nat.le_of_ble_eq_true rfl) ?_
  show zGo _ _ _ _ _ _ 0 ([some (.ref 59), some (.int (iI (a))), some (.int (iI (b))), some (.int (iI (c)))], [], _, _, _)
  subst ep
  subst ew
  have h2 : zb (h 59 18) := by rw [ed]; exact ⟨by omega, by omega⟩
  refine s_ldA0 ok rfl ?_
  refine s_ldI1 ok rfl ?_
  refine s_callV ok rfl rfl rfl rfl rfl rfl (ct_isTrain hd.1 za) ?_
  refine s_if_eq ok rfl zif01 (fun c5 => ?_) (fun c5 => ?_)
  · refine s_ci ok rfl ?_
    refine s_retI ok rfl ⟨congrArg (fun z => some (Value.int (iI z))) (if_neg (fun q => by first | exact zif_f c21 q.2.2 | exact zif_f c12 q.2.1 | exact zif_f c5 q.1)).symm, _, rfl, dE.rf hd⟩
  · refine s_ldI2 ok rfl ?_
    refine s_callS ok rfl rfl rfl rfl (ct_isDepth zc) ?_
    refine s_if_eq ok rfl zif01 (fun c12 => ?_) (fun c12 => ?_)
    · refine s_ci ok rfl ?_
      refine s_retI ok rfl ⟨congrArg (fun z => some (Value.int (iI z))) (if_neg (fun q => by first | exact zif_f c21 q.2.2 | exact zif_f c12 q.2.1 | exact zif_f c5 q.1)).symm, _, rfl, dE.rf hd⟩
    · refine s_ldI3 ok rfl ?_
      refine s_ci ok rfl ?_
      refine s_ci ok rfl ?_
      refine s_callS ok rfl rfl rfl rfl (ct_isIn ze ⟨by omega, by omega⟩ ⟨by omega, by omega⟩) ?_
      refine s_if_eq ok rfl zif01 (fun c21 => ?_) (fun c21 => ?_)
      · refine s_ci ok rfl ?_
        refine s_retI ok rfl ⟨congrArg (fun z => some (Value.int (iI z))) (if_neg (fun q => by first | exact zif_f c21 q.2.2 | exact zif_f c12 q.2.1 | exact zif_f c5 q.1)).symm, _, rfl, dE.rf hd⟩
      · have ya := zif_t c5
        have yb := zif_t c12
        have yc := zif_t c21
        have o1 := hd.1.2.1
        have de := (day_eq hd).2.2 67 (by omega) (3 * a + b) c (by omega) (by omega) (by rw [ed]; omega) yc.1 (by omega)
        rw [ed] at de
        refine s_ldA0 ok rfl ?_
        refine s_callVv ok rfl rfl rfl rfl rfl rfl (ct_goes hd (by exact h2)) ?_
        refine s_ldA0 ok rfl ?_
        refine s_getF ok rfl rfl rfl rfl ?_
        refine s_ci ok rfl ?_
        refine s_ci ok rfl ?_
        refine s_ldI1 ok rfl ?_
        refine s_mul ok rfl ?_
        refine s_ldI2 ok rfl ?_
        refine s_add ok rfl ?_
        refine s_mul ok rfl ?_
        refine s_ldI3 ok rfl ?_
        refine s_add ok rfl ?_
        refine s_iald ok rfl (by exact rfl) (by exact rfl) (by omega) (by omega) ?_
        rw [de]
        refine s_retI ok rfl ⟨congrArg (fun z => some (Value.int (iI z))) (if_pos ⟨ya, yb, yc⟩).symm, _, rfl, (dE_goes hd).1⟩
theorem ct_aboard {E : zE} {d : Nat} {k : Nat → Nat × Nat} {h : Nat → Int → Int} {r : Nat → Int → Option Nat} {l : Nat → Nat → Int64} {n : Nat} {p : Int → Int} {w : Int} (ep : h 60 = p) (ew : h 59 17 = w) (ed : h 59 18 = 3) (hd : dP h) {a b c : Int} (za : zb a) (zc : zb b) (ze : zb c) : zCT E (d + 7) M_X12_aboard [.ref 59, .int (iI (a)), .int (iI (b)), .int (iI (c))] (zJ (k, h, r, l, n)) 0 0 (zVx (.int (iI (if (0 ≤ a ∧ a < p 0) ∧ (0 ≤ b ∧ b < 3) ∧ (0 ≤ c ∧ c ≤ 4) then dN p w 3 68 (5 * (3 * a + b) + c) else -1))) (zG k r l n (dE h))) := by
  have ok := ok_X12_aboard
  refine zCT_of pn_X12_aboard (Nat.le_of_ble_eq_true rfl) ?_
  show zGo _ _ _ _ _ _ 0 ([some (.ref 59), some (.int (iI (a))), some (.int (iI (b))), some (.int (iI (c)))], [], _, _, _)
  subst ep
  subst ew
  have h2 : zb (h 59 18) := by rw [ed]; exact ⟨by omega, by omega⟩
  refine s_ldA0 ok rfl ?_
  refine s_ldI1 ok rfl ?_
  refine s_callV ok rfl rfl rfl rfl rfl rfl (ct_isTrain hd.1 za) ?_
  refine s_if_eq ok rfl zif01 (fun c5 => ?_) (fun c5 => ?_)
  · refine s_ci ok rfl ?_
    refine s_retI ok rfl ⟨congrArg (fun z => some (Value.int (iI z))) (if_neg (fun q => by first | exact zif_f c21 q.2.2 | exact zif_f c12 q.2.1 | exact zif_f c5 q.1)).symm, _, rfl, dE.rf hd⟩
  · refine s_ldI2 ok rfl ?_
    refine s_callS ok rfl rfl rfl rfl (ct_isDepth zc) ?_
    refine s_if_eq ok rfl zif01 (fun c12 => ?_) (fun c12 => ?_)
    · refine s_ci ok rfl ?_
      refine s_retI ok rfl ⟨congrArg (fun z => some (Value.int (iI z))) (if_neg (fun q => by first | exact zif_f c21 q.2.2 | exact zif_f c12 q.2.1 | exact zif_f c5 q.1)).symm, _, rfl, dE.rf hd⟩
    · refine s_ldI3 ok rfl ?_
      refine s_ci ok rfl ?_
      refine s_ci ok rfl ?_
      refine s_callS ok rfl rfl rfl rfl (ct_isIn ze ⟨by omega, by omega⟩ ⟨by omega, by omega⟩) ?_
      refine s_if_eq ok rfl zif01 (fun c21 => ?_) (fun c21 => ?_)
      · refine s_ci ok rfl ?_
        refine s_retI ok rfl ⟨congrArg (fun z => some (Value.int (iI z))) (if_neg (fun q => by first | exact zif_f c21 q.2.2 | exact zif_f c12 q.2.1 | exact zif_f c5 q.1)).symm, _, rfl, dE.rf hd⟩
      · have ya := zif_t c5
        have yb := zif_t c12
        have yc := zif_t c21
        have o1 := hd.1.2.1
        have de := (day_eq hd).2.2 68 (by omega) (3 * a + b) c (by omega) (by omega) (by rw [ed]; omega) yc.1 (by omega)
        rw [ed] at de
        refine s_ldA0 ok rfl ?_
        refine s_callVv ok rfl rfl rfl rfl rfl rfl (ct_goes hd (by exact h2)) ?_
        refine s_ldA0 ok rfl ?_
        refine s_getF ok rfl rfl rfl rfl ?_
        refine s_ci ok rfl ?_
        refine s_ci ok rfl ?_
        refine s_ldI1 ok rfl ?_
        refine s_mul ok rfl ?_
        refine s_ldI2 ok rfl ?_
        refine s_add ok rfl ?_
        refine s_mul ok rfl ?_
        refine s_ldI3 ok rfl ?_
        refine s_add ok rfl ?_
        refine s_iald ok rfl (by exact rfl) (by exact rfl) (by omega) (by omega) ?_
        rw [de]
        refine s_retI ok rfl ⟨congrArg (fun z => some (Value.int (iI z))) (if_pos ⟨ya, yb, yc⟩).symm, _, rfl, (dE_goes hd).1⟩
theorem ct_fullest {E : zE} {d : Nat} {k : Nat → Nat × Nat} {h : Nat → Int → Int} {r : Nat → Int → Option Nat} {l : Nat → Nat → Int64} {n : Nat} {p : Int → Int} {w dd : Int} (ep : h 60 = p) (ew : h 59 17 = w) (ed : h 59 18 = dd) (hd : dP h) (h2 : zb dd) {a b : Int} (za : zb a) (zc : zb b) : zCT E (d + 7) M_X12_fullest [.ref 59, .int (iI (a)), .int (iI (b))] (zJ (k, h, r, l, n)) 0 0 (zVx (.int (iI (if (0 ≤ a ∧ a < p 0) ∧ (0 ≤ b ∧ b < 3) then dN p w dd 66 (3 * a + b) else -1))) (zG k r l n (dE h))) := by
  have ok := ok_X12_fullest
  refine zCT_of pn_X12_fullest (Nat.le_of_ble_eq_true rfl) ?_
  show zGo _ _ _ _ _ _ 0 ([some (.ref 59), some (.int (iI (a))), some (.int (iI (b)))], [], _, _, _)
  subst ep
  subst ew
  subst ed
  refine s_ldA0 ok rfl ?_
  refine s_ldI1 ok rfl ?_
  refine s_callV ok rfl rfl rfl rfl rfl rfl (ct_isTrain hd.1 za) ?_
  refine s_if_eq ok rfl zif01 (fun c5 => ?_) (fun c5 => ?_)
  · refine s_ci ok rfl ?_
    refine s_retI ok rfl ⟨congrArg (fun z => some (Value.int (iI z))) (if_neg (fun q => by first | exact zif_f c12 q.2 | exact zif_f c5 q.1)).symm, _, rfl, dE.rf hd⟩
  · refine s_ldI2 ok rfl ?_
    refine s_callS ok rfl rfl rfl rfl (ct_isDepth zc) ?_
    refine s_if_eq ok rfl zif01 (fun c12 => ?_) (fun c12 => ?_)
    · refine s_ci ok rfl ?_
      refine s_retI ok rfl ⟨congrArg (fun z => some (Value.int (iI z))) (if_neg (fun q => by first | exact zif_f c12 q.2 | exact zif_f c5 q.1)).symm, _, rfl, dE.rf hd⟩
    · have ya := zif_t c5
      have yb := zif_t c12
      have o1 := hd.1.2.1
      have de := (day_eq hd).2.1 66 (by omega) (by omega) (3 * a + b) (by omega) (by omega)
      refine s_ldA0 ok rfl ?_
      refine s_callVv ok rfl rfl rfl rfl rfl rfl (ct_goes hd (by exact h2)) ?_
      refine s_ldA0 ok rfl ?_
      refine s_getF ok rfl rfl rfl rfl ?_
      refine s_ci ok rfl ?_
      refine s_ldI1 ok rfl ?_
      refine s_mul ok rfl ?_
      refine s_ldI2 ok rfl ?_
      refine s_add ok rfl ?_
      refine s_iald ok rfl (by exact rfl) (by exact rfl) (by omega) (by omega) ?_
      rw [de]
      refine s_retI ok rfl ⟨congrArg (fun z => some (Value.int (iI z))) (if_pos ⟨ya, yb⟩).symm, _, rfl, (dE_goes hd).1⟩
theorem ct_ticketOf {E : zE} {d : Nat} {k : Nat → Nat × Nat} {h : Nat → Int → Int} {r : Nat → Int → Option Nat} {l : Nat → Nat → Int64} {n : Nat} {t : Int} (h9 : zb (h 69 t)) (t0 : 0 ≤ t) (t1 : t < 8) : zCT E d M_X12_ticketOf [.ref 59, .int (iI (t))] (zJ (k, h, r, l, n)) 0 0 (zV (.int (iI (if h 69 t < 0 then -1 else h 69 t))) (zJ (k, h, r, l, n))) := by
  have ok := ok_X12_ticketOf
  refine zCT_of pn_X12_ticketOf (Nat.le_of_ble_eq_true rfl) ?_
  show zGo _ _ _ _ _ _ 0 ([some (.ref 59), some (.int (iI (t)))], [], _, _, _)
  refine s_ldA0 ok rfl ?_
  refine s_getF ok rfl rfl rfl rfl ?_
  refine s_ldI1 ok rfl ?_
  refine s_iald ok rfl (by exact rfl) (by exact rfl) (by omega) (by omega) ?_
  refine s_if_ge ok rfl h9 (fun c6 => ?_) (fun c6 => ?_)
  · refine s_ldA0 ok rfl ?_
    refine s_getF ok rfl rfl rfl rfl ?_
    refine s_ldI1 ok rfl ?_
    refine s_iald ok rfl (by exact rfl) (by exact rfl) (by omega) (by omega) ?_
    refine s_retI ok rfl ⟨congrArg (fun z => some (Value.int (iI z))) (by first | rw [if_pos (by omega)] | rw [if_neg (by omega)]), rfl⟩
  · refine s_ci ok rfl ?_
    refine s_goto ok rfl ?_
    refine s_retI ok rfl ⟨congrArg (fun z => some (Value.int (iI z))) (by first | rw [if_pos (by omega)] | rw [if_neg (by omega)]), rfl⟩
theorem ct_leastOf {E : zE} {d : Nat} {k : Nat → Nat × Nat} {h : Nat → Int → Int} {r : Nat → Int → Option Nat} {l : Nat → Nat → Int64} {n : Nat} {t : Int} (h9 : zb t) : zCT E d M_X12_leastOf [.ref 59, .int (iI (t))] (zJ (k, h, r, l, n)) 0 0 (zV (.int (iI (if t = 0 then -128 else if t = 1 then -32768 else -2147483648))) (zJ (k, h, r, l, n))) := by
  have ok := ok_X12_leastOf
  refine zCT_of pn_X12_leastOf (Nat.le_of_ble_eq_true rfl) ?_
  show zGo _ _ _ _ _ _ 0 ([some (.ref 59), some (.int (iI (t)))], [], _, _, _)
  refine s_ldI1 ok rfl ?_
  refine s_if_eq ok rfl h9 (fun c1 => ?_) (fun c1 => ?_)
  · refine s_ci ok rfl ?_
    refine s_goto ok rfl ?_
    refine s_retI ok rfl ⟨congrArg (fun z => some (Value.int (iI z))) (by first | (rw [if_pos (by omega)]; done) | (rw [if_neg (by omega), if_pos (by omega)]; done) | rw [if_neg (by omega), if_neg (by omega)]), rfl⟩
  · refine s_ldI1 ok rfl ?_
    refine s_ci ok rfl ?_
    refine s_c_eq ok rfl h9 ⟨by omega, by omega⟩ (fun c11 => ?_) (fun c11 => ?_)
    · refine s_ci ok rfl ?_
      refine s_goto ok rfl ?_
      refine s_retI ok rfl ⟨congrArg (fun z => some (Value.int (iI z))) (by first | (rw [if_pos (by omega)]; done) | (rw [if_neg (by omega), if_pos (by omega)]; done) | rw [if_neg (by omega), if_neg (by omega)]), rfl⟩
    · refine s_ci ok rfl ?_
      refine s_retI ok rfl ⟨congrArg (fun z => some (Value.int (iI z))) (by first | (rw [if_pos (by omega)]; done) | (rw [if_neg (by omega), if_pos (by omega)]; done) | rw [if_neg (by omega), if_neg (by omega)]), rfl⟩
theorem ct_placeAt {E : zE} {d : Nat} {k : Nat → Nat × Nat} {h : Nat → Int → Int} {r : Nat → Int → Option Nat} {l : Nat → Nat → Int64} {n : Nat} (hp : pOK (h 60)) {t mi : Int} (t0 : 0 ≤ t) (t1 : t < 8) (zm : zb mi) (z69 : zb (h 69 t)) (z70 : zb (h 70 t)) (z71 : zb (h 71 t)) : zCT E (d + 2) M_X12_placeAt [.ref 59, .int (iI (t)), .int (iI (mi))] (zJ (k, h, r, l, n)) 0 0 (zV (.int (iI ((if 0 ≤ h 69 t ∧ h 70 t ≤ mi then (if h 71 t ≤ mi then pOf (h 60) t else 5) else if mi < pCm (h 60) t then 6 else pFr (h 60) t)))) (zJ (k, h, r, l, n))) := by
  have ok := ok_X12_placeAt
  refine zCT_of pn_X12_placeAt (Nat.le_of_ble_eq_true rfl) ?_
  show zGo _ _ _ _ _ _ 0 ([some (.ref 59), some (.int (iI (t))), some (.int (iI (mi)))], [], _, _, _)
  refine s_ldA0 ok rfl ?_
  refine s_getF ok rfl rfl rfl rfl ?_
  refine s_ldI1 ok rfl ?_
  refine s_iald ok rfl (by exact rfl) (by exact rfl) (by omega) (by omega) ?_
  refine s_if_lt ok rfl z69 (fun c6 => ?_) (fun c6 => ?_)
  · refine s_ldA0 ok rfl ?_
    refine s_ldI1 ok rfl ?_
    refine s_callV ok rfl rfl rfl rfl rfl rfl (ct_comesAt hp t0 t1) ?_
    refine s_ldI2 ok rfl ?_
    have zc0 := pCm_b hp t0 t1
    have zcm : zb (pCm (h 60) t) := ⟨by omega, by omega⟩
    refine s_c_le ok rfl zcm zm (fun c45 => ?_) (fun c45 => ?_)
    · refine s_ldA0 ok rfl ?_
      refine s_ldI1 ok rfl ?_
      refine s_callV ok rfl rfl rfl rfl rfl rfl (ct_from t0 t1) ?_
      refine s_retI ok rfl ⟨congrArg (fun z => some (Value.int (iI z))) (by first | (rw [if_pos (by omega), if_pos (by omega)]; done) | (rw [if_pos (by omega), if_neg (by omega)]; done) | (rw [if_neg (by omega), if_pos (by omega)]; done) | rw [if_neg (by omega), if_neg (by omega)]), rfl⟩
    · refine s_ci ok rfl ?_
      refine s_goto ok rfl ?_
      refine s_retI ok rfl ⟨congrArg (fun z => some (Value.int (iI z))) (by first | (rw [if_pos (by omega), if_pos (by omega)]; done) | (rw [if_pos (by omega), if_neg (by omega)]; done) | (rw [if_neg (by omega), if_pos (by omega)]; done) | rw [if_neg (by omega), if_neg (by omega)]), rfl⟩
  · refine s_ldA0 ok rfl ?_
    refine s_getF ok rfl rfl rfl rfl ?_
    refine s_ldI1 ok rfl ?_
    refine s_iald ok rfl (by exact rfl) (by exact rfl) (by omega) (by omega) ?_
    refine s_ldI2 ok rfl ?_
    refine s_c_gt ok rfl z70 zm (fun c16 => ?_) (fun c16 => ?_)
    · refine s_ldA0 ok rfl ?_
      refine s_ldI1 ok rfl ?_
      refine s_callV ok rfl rfl rfl rfl rfl rfl (ct_comesAt hp t0 t1) ?_
      refine s_ldI2 ok rfl ?_
      have zc0 := pCm_b hp t0 t1
      have zcm : zb (pCm (h 60) t) := ⟨by omega, by omega⟩
      refine s_c_le ok rfl zcm zm (fun c45 => ?_) (fun c45 => ?_)
      · refine s_ldA0 ok rfl ?_
        refine s_ldI1 ok rfl ?_
        refine s_callV ok rfl rfl rfl rfl rfl rfl (ct_from t0 t1) ?_
        refine s_retI ok rfl ⟨congrArg (fun z => some (Value.int (iI z))) (by first | (rw [if_pos (by omega), if_pos (by omega)]; done) | (rw [if_pos (by omega), if_neg (by omega)]; done) | (rw [if_neg (by omega), if_pos (by omega)]; done) | rw [if_neg (by omega), if_neg (by omega)]), rfl⟩
      · refine s_ci ok rfl ?_
        refine s_goto ok rfl ?_
        refine s_retI ok rfl ⟨congrArg (fun z => some (Value.int (iI z))) (by first | (rw [if_pos (by omega), if_pos (by omega)]; done) | (rw [if_pos (by omega), if_neg (by omega)]; done) | (rw [if_neg (by omega), if_pos (by omega)]; done) | rw [if_neg (by omega), if_neg (by omega)]), rfl⟩
    · refine s_ldA0 ok rfl ?_
      refine s_getF ok rfl rfl rfl rfl ?_
      refine s_ldI1 ok rfl ?_
      refine s_iald ok rfl (by exact rfl) (by exact rfl) (by omega) (by omega) ?_
      refine s_ldI2 ok rfl ?_
      refine s_c_gt ok rfl z71 zm (fun c26 => ?_) (fun c26 => ?_)
      · refine s_ci ok rfl ?_
        refine s_retI ok rfl ⟨congrArg (fun z => some (Value.int (iI z))) (by first | (rw [if_pos (by omega), if_pos (by omega)]; done) | (rw [if_pos (by omega), if_neg (by omega)]; done) | (rw [if_neg (by omega), if_pos (by omega)]; done) | rw [if_neg (by omega), if_neg (by omega)]), rfl⟩
      · refine s_ldA0 ok rfl ?_
        refine s_ldI1 ok rfl ?_
        refine s_callV ok rfl rfl rfl rfl rfl rfl (ct_offOf hp t0 t1) ?_
        refine s_goto ok rfl ?_
        refine s_retI ok rfl ⟨congrArg (fun z => some (Value.int (iI z))) (by first | (rw [if_pos (by omega), if_pos (by omega)]; done) | (rw [if_pos (by omega), if_neg (by omega)]; done) | (rw [if_neg (by omega), if_pos (by omega)]; done) | rw [if_neg (by omega), if_neg (by omega)]), rfl⟩
