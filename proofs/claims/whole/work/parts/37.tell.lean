/-! image, restore, trains, cancels, keep -/
theorem ct_image {E : zE} {d : Nat} {k : Nat → Nat × Nat} {h : Nat → Int → Int} {r : Nat → Int → Option Nat} {l : Nat → Nat → Int64} {n : Nat}  : zCT E (d + 1) M_X12_image [.ref 59] (zJ (k, h, r, l, n)) 0 0 (zV (.int (iI (h 60 6))) (zJ (k, zv (zly 60 61 59 h) 59 3 1, r, l, n))) := by
  have ok := ok_X12_image
  refine zCT_of pn_X12_image (Nat.le_of_ble_eq_true rfl) ?_
  show zGo _ _ _ _ _ _ 0 ([some (.ref 59)], [], _, _, _)
  refine s_ldA0 ok rfl ?_
  refine s_getF ok rfl rfl rfl rfl ?_
  refine s_ldA0 ok rfl ?_
  refine s_getF ok rfl rfl rfl rfl ?_
  refine s_callSv ok rfl rfl rfl rfl (ct_lays (x := 60) (y := 61) rfl rfl (by omega)) ?_
  refine s_ldA0 ok rfl ?_
  refine s_ci ok rfl ?_
  refine s_putJ 3 ok rfl rfl rfl rfl (fun _ => by first | exact Or.inl rfl | exact Or.inr rfl) ?_
  refine s_ldA0 ok rfl ?_
  refine s_getF ok rfl rfl rfl rfl ?_
  refine s_ci ok rfl ?_
  refine s_iald ok rfl (by exact rfl) (by exact rfl) (by omega) (by omega) ?_
  have e6 : zv (zly 60 61 59 h) 59 3 1 60 6 = h 60 6 := (congrFun (zv_other (by omega)) 6).trans (if_neg (by omega))
  rw [e6]
  refine s_retI ok rfl ⟨rfl, rfl⟩
theorem ct_restore {E : zE} {d : Nat} {k : Nat → Nat × Nat} {h : Nat → Int → Int} {r : Nat → Int → Option Nat} {l : Nat → Nat → Int64} {n : Nat} (z3 : zb (h 59 3)) : zCT E (d + 1) M_X12_restore [.ref 59] (zJ (k, h, r, l, n)) 0 0 (zV (.int (iI (if h 59 3 = 0 then -3 else h 61 6))) (zJ (k, (if h 59 3 = 0 then h else zly 61 60 59 h), r, l, n))) := by
  have ok := ok_X12_restore
  refine zCT_of pn_X12_restore (Nat.le_of_ble_eq_true rfl) ?_
  show zGo _ _ _ _ _ _ 0 ([some (.ref 59)], [], _, _, _)
  refine s_ldA0 ok rfl ?_
  refine s_getJ 3 ok rfl rfl rfl rfl ?_
  refine s_if_eq ok rfl z3 (fun c4 => ?_) (fun c4 => ?_)
  · refine s_ci ok rfl ?_
    refine s_retI ok rfl ⟨congrArg (fun z => some (Value.int (iI z))) (if_pos c4).symm, congrArg (fun z => zJ (k, z, r, l, n)) (if_pos c4).symm⟩
  · refine s_ldA0 ok rfl ?_
    refine s_getF ok rfl rfl rfl rfl ?_
    refine s_ldA0 ok rfl ?_
    refine s_getF ok rfl rfl rfl rfl ?_
    refine s_callSv ok rfl rfl rfl rfl (ct_lays (x := 61) (y := 60) rfl rfl (by omega)) ?_
    refine s_ldA0 ok rfl ?_
    refine s_getF ok rfl rfl rfl rfl ?_
    refine s_ci ok rfl ?_
    refine s_iald ok rfl (by exact rfl) (by exact rfl) (by omega) (by omega) ?_
    have e6 : zly 61 60 59 h 60 6 = h 61 6 := if_pos (by omega)
    rw [e6]
    refine s_retI ok rfl ⟨congrArg (fun z => some (Value.int (iI z))) (if_neg c4).symm, congrArg (fun z => zJ (k, z, r, l, n)) (if_neg c4).symm⟩
/-- one train more -/
def sAT (h : Nat → Int → Int) (a b : Int) : Nat → Int → Int := zv (zv (zv h 60 (11 + 2 * h 60 0) a) 60 (11 + 2 * h 60 0 + 1) b) 60 0 (h 60 0 + 1)
theorem ct_addsTrain {E : zE} {d : Nat} {k : Nat → Nat × Nat} {h : Nat → Int → Int} {r : Nat → Int → Option Nat} {l : Nat → Nat → Int64} {n : Nat} {a b : Int} (n0 : 0 ≤ h 60 0) (n1 : h 60 0 < 4) : zCT E d M_X12_addsTrain [.ref 59, .int (iI (a)), .int (iI (b))] (zJ (k, h, r, l, n)) 0 0 (zU (zJ (k, sAT h a b, r, l, n))) := by
  have ok := ok_X12_addsTrain
  refine zCT_of pn_X12_addsTrain (Nat.le_of_ble_eq_true rfl) ?_
  show zGo _ _ _ _ _ _ 0 ([some (.ref 59), some (.int (iI (a))), some (.int (iI (b)))], [], _, _, _)
  refine s_ldA0 ok rfl ?_
  refine s_getF ok rfl rfl rfl rfl ?_
  refine s_ci ok rfl ?_
  refine s_ci ok rfl ?_
  refine s_ldA0 ok rfl ?_
  refine s_getF ok rfl rfl rfl rfl ?_
  refine s_ci ok rfl ?_
  refine s_iald ok rfl (by exact rfl) (by exact rfl) (by omega) (by omega) ?_
  refine s_mul ok rfl ?_
  refine s_add ok rfl ?_
  refine s_ldI1 ok rfl ?_
  refine s_iast ok rfl (by exact rfl) (by exact rfl) (by omega) (by omega) (fun q => by cases q) ?_
  refine s_ldA0 ok rfl ?_
  refine s_getF ok rfl rfl rfl rfl ?_
  refine s_ci ok rfl ?_
  refine s_ci ok rfl ?_
  refine s_ldA0 ok rfl ?_
  refine s_getF ok rfl rfl rfl rfl ?_
  refine s_ci ok rfl ?_
  refine s_iald ok rfl (by exact rfl) (by exact rfl) (by omega) (by omega) ?_
  rw [zv_at (by omega)]
  refine s_mul ok rfl ?_
  refine s_add ok rfl ?_
  refine s_ci ok rfl ?_
  refine s_add ok rfl ?_
  refine s_ldI2 ok rfl ?_
  refine s_iast ok rfl (by exact rfl) (by exact rfl) (by omega) (by omega) (fun q => by cases q) ?_
  refine s_ldA0 ok rfl ?_
  refine s_getF ok rfl rfl rfl rfl ?_
  refine s_ci ok rfl ?_
  refine s_dup2 ok rfl ?_
  refine s_iald ok rfl (by exact rfl) (by exact rfl) (by omega) (by omega) ?_
  rw [zv_at (by omega), zv_at (by omega)]
  refine s_ci ok rfl ?_
  refine s_add ok rfl ?_
  refine s_iast ok rfl (by exact rfl) (by exact rfl) (by omega) (by omega) (fun q => by cases q) ?_
  refine s_retV ok rfl ⟨rfl, rfl⟩
theorem ct_train {E : zE} {d : Nat} {k : Nat → Nat × Nat} {h : Nat → Int → Int} {r : Nat → Int → Option Nat} {l : Nat → Nat → Int64} {n : Nat} {a b : Int} (za : zb a) (z2 : zb b) (n0 : 0 ≤ h 60 0) (n1 : h 60 0 ≤ 4) : zCT E (d + 1) M_X12_train [.ref 59, .int (iI (a)), .int (iI (b))] (zJ (k, h, r, l, n)) 0 0 (zV (.int (iI (if (0 ≤ a ∧ a ≤ 300) ∧ (0 ≤ b ∧ b ≤ 9) then (if h 60 0 = 4 then -2 else h 60 0) else -1))) (zJ (k, (if (0 ≤ a ∧ a ≤ 300) ∧ (0 ≤ b ∧ b ≤ 9) then (if h 60 0 = 4 then h else sAT h a b) else h), r, l, n))) := by
  have ok := ok_X12_train
  refine zCT_of pn_X12_train (Nat.le_of_ble_eq_true rfl) ?_
  show zGo _ _ _ _ _ _ 0 ([some (.ref 59), some (.int (iI (a))), some (.int (iI (b)))], [], _, _, _)
  refine s_ldI1 ok rfl ?_
  refine s_ci ok rfl ?_
  refine s_ci ok rfl ?_
  refine s_callS ok rfl rfl rfl rfl (ct_isIn za ⟨by omega, by omega⟩ ⟨by omega, by omega⟩) ?_
  refine s_if_eq ok rfl zif01 (fun c8 => ?_) (fun c8 => ?_)
  · refine s_ci ok rfl ?_
    refine s_retI ok rfl ⟨congrArg (fun z => some (Value.int (iI z))) (if_neg (fun q => by first | exact zif_f c18 q.2 | exact zif_f c8 q.1)).symm, congrArg (fun z => zJ (k, z, r, l, n)) (if_neg (fun q => by first | exact zif_f c18 q.2 | exact zif_f c8 q.1)).symm⟩
  · refine s_ldI2 ok rfl ?_
    refine s_ci ok rfl ?_
    refine s_ci ok rfl ?_
    refine s_callS ok rfl rfl rfl rfl (ct_isIn z2 ⟨by omega, by omega⟩ ⟨by omega, by omega⟩) ?_
    refine s_if_eq ok rfl zif01 (fun c18 => ?_) (fun c18 => ?_)
    · refine s_ci ok rfl ?_
      refine s_retI ok rfl ⟨congrArg (fun z => some (Value.int (iI z))) (if_neg (fun q => by first | exact zif_f c18 q.2 | exact zif_f c8 q.1)).symm, congrArg (fun z => zJ (k, z, r, l, n)) (if_neg (fun q => by first | exact zif_f c18 q.2 | exact zif_f c8 q.1)).symm⟩
    · have ya := zif_t c8
      have yb := zif_t c18
      refine s_ldA0 ok rfl ?_
      refine s_getF ok rfl rfl rfl rfl ?_
      refine s_ci ok rfl ?_
      refine s_iald ok rfl (by exact rfl) (by exact rfl) (by omega) (by omega) ?_
      refine s_ci ok rfl ?_
      refine s_c_eq ok rfl (by first | exact hb _ _ | exact ⟨by omega, by omega⟩) (by first | exact hb _ _ | exact ⟨by omega, by omega⟩) (fun c30 => ?_) (fun c30 => ?_)
      · refine s_ci ok rfl ?_
        refine s_retI ok rfl ⟨congrArg (fun z => some (Value.int (iI z))) ((if_pos (And.intro ya yb)).trans (if_pos c30)).symm, congrArg (fun z => zJ (k, z, r, l, n)) ((if_pos (And.intro ya yb)).trans (if_pos c30)).symm⟩
      · refine s_ldA0 ok rfl ?_
        refine s_ldI1 ok rfl ?_
        refine s_ldI2 ok rfl ?_
        refine s_callVv ok rfl rfl rfl rfl rfl rfl (ct_addsTrain n0 (by omega)) ?_
        refine s_ldA0 ok rfl ?_
        refine s_getF ok rfl rfl rfl rfl ?_
        refine s_ci ok rfl ?_
        refine s_iald ok rfl (by exact rfl) (by exact rfl) (by omega) (by omega) ?_
        rw [show sAT h a b 60 0 = h 60 0 + 1 from zv_is]
        refine s_ci ok rfl ?_
        refine s_sub ok rfl ?_
        refine s_retI ok rfl ⟨congrArg (fun z => some (Value.int (iI z))) (Eq.trans (by omega) ((if_pos (And.intro ya yb)).trans (if_neg c30)).symm), congrArg (fun z => zJ (k, z, r, l, n)) ((if_pos (And.intro ya yb)).trans (if_neg c30)).symm⟩
theorem ct_cancels {E : zE} {d : Nat} {k : Nat → Nat × Nat} {h : Nat → Int → Int} {r : Nat → Int → Option Nat} {l : Nat → Nat → Int64} {n : Nat} (hp : pOK (h 60)) {t : Int} (zt : zb t) : zCT E (d + 2) M_X12_cancels [.ref 59, .int (iI (t))] (zJ (k, h, r, l, n)) 0 0 (zV (.int (iI (if 0 ≤ t ∧ t < h 60 0 then zbt (zxb (h 60 1) t) t else -1))) (zJ (k, (if 0 ≤ t ∧ t < h 60 0 then zv h 60 1 (zxb (h 60 1) t) else h), r, l, n))) := by
  have ok := ok_X12_cancels
  refine zCT_of pn_X12_cancels (Nat.le_of_ble_eq_true rfl) ?_
  show zGo _ _ _ _ _ _ 0 ([some (.ref 59), some (.int (iI (t)))], [], _, _, _)
  refine s_ldA0 ok rfl ?_
  refine s_ldI1 ok rfl ?_
  refine s_callV ok rfl rfl rfl rfl rfl rfl (ct_isTrain hp zt) ?_
  refine s_if_eq ok rfl zif01 (fun c5 => ?_) (fun c5 => ?_)
  · refine s_ci ok rfl ?_
    refine s_retI ok rfl ⟨congrArg (fun z => some (Value.int (iI z))) (if_neg (fun q => zif_f c5 q)).symm, congrArg (fun z => zJ (k, z, r, l, n)) (if_neg (fun q => zif_f c5 q)).symm⟩
  · have yt := zif_t c5
    have o1 := hp.2.1
    have m0 := hp.2.2.1
    have m1 := hp.2.2.2.1
    obtain ⟨⟨x0, x1⟩, x2⟩ := zxb4 m0 m1 yt.1 (by omega)
    have bb := zbt_01 (m := zxb (h 60 1) t) (k := t)
    refine s_ldA0 ok rfl ?_
    refine s_getF ok rfl rfl rfl rfl ?_
    refine s_ci ok rfl ?_
    refine s_dup2 ok rfl ?_
    refine s_iald ok rfl (by exact rfl) (by exact rfl) (by omega) (by omega) ?_
    refine s_ci ok rfl ?_
    refine s_ldI1 ok rfl ?_
    refine s_bin ok rfl (zshl (by omega) (by omega)) ?_
    refine s_bin ok rfl ((zob m0 (by omega) (by omega) (by omega)).2.1) ?_
    refine s_iast ok rfl (by exact rfl) (by exact rfl) (by omega) (by omega) (fun q => by cases q) ?_
    refine s_ldA0 ok rfl ?_
    refine s_getF ok rfl rfl rfl rfl ?_
    refine s_ci ok rfl ?_
    refine s_iald ok rfl (by exact rfl) (by exact rfl) (by omega) (by omega) ?_
    rw [zv_is]
    refine s_ldI1 ok rfl ?_
    refine s_callS ok rfl rfl rfl rfl (ct_has x0 (by omega) yt.1 (by omega)) ?_
    refine s_if_eq ok rfl (by have := zbt_01 (m := zxb (h 60 1) t) (k := t); exact ⟨by omega, by omega⟩) (fun c32 => ?_) (fun c32 => ?_)
    · refine s_ci ok rfl ?_
      refine s_retI ok rfl ⟨congrArg (fun z => some (Value.int (iI z))) (Eq.trans (by omega) (if_pos yt).symm), congrArg (fun z => zJ (k, z, r, l, n)) (if_pos yt).symm⟩
    · refine s_ci ok rfl ?_
      refine s_goto ok rfl ?_
      refine s_retI ok rfl ⟨congrArg (fun z => some (Value.int (iI z))) (Eq.trans (by omega) (if_pos yt).symm), congrArg (fun z => zJ (k, z, r, l, n)) (if_pos yt).symm⟩
theorem ct_keep {E : zE} {d : Nat} {k : Nat → Nat × Nat} {h : Nat → Int → Int} {r : Nat → Int → Option Nat} {l : Nat → Nat → Int64} {n : Nat} {t a b c : Int} (zt : zb t) (za : zb a) (z2 : zb b) (z3 : zb c) : zCT E (d + 2) M_X12_keep [.ref 59, .int (iI (t)), .int (iI (a)), .int (iI (b)), .int (iI (c))] (zJ (k, h, r, l, n)) 0 0 (zV (.int (iI (if (0 ≤ t ∧ t < 8) ∧ (0 ≤ a ∧ a ≤ 1) ∧ (a = 1 → (0 ≤ b ∧ b ≤ 7) ∧ (0 ≤ c ∧ c ≤ 9)) then 0 else -1))) (zJ (k, (if (0 ≤ t ∧ t < 8) ∧ (0 ≤ a ∧ a ≤ 1) ∧ (a = 1 → (0 ≤ b ∧ b ≤ 7) ∧ (0 ≤ c ∧ c ≤ 9)) then zv (zv (zv h 80 t a) 81 t b) 82 t c else h), r, l, n))) := by
  have ok := ok_X12_keep
  refine zCT_of pn_X12_keep (Nat.le_of_ble_eq_true rfl) ?_
  show zGo _ _ _ _ _ _ 0 ([some (.ref 59), some (.int (iI (t))), some (.int (iI (a))), some (.int (iI (b))), some (.int (iI (c)))], [], _, _, _)
  refine s_ldI1 ok rfl ?_
  refine s_callS ok rfl rfl rfl rfl (ct_isShelf zt) ?_
  refine s_if_eq ok rfl zif01 (fun c4 => ?_) (fun c4 => ?_)
  · refine s_ci ok rfl ?_
    refine s_retI ok rfl ⟨congrArg (fun z => some (Value.int (iI z))) (if_neg (fun q => by first | exact zif_f c39 (q.2.2 c18).2 | exact zif_f c28 (q.2.2 c18).1 | exact zif_f c13 q.2.1 | exact zif_f c4 q.1)).symm, congrArg (fun z => zJ (k, z, r, l, n)) (if_neg (fun q => by first | exact zif_f c39 (q.2.2 c18).2 | exact zif_f c28 (q.2.2 c18).1 | exact zif_f c13 q.2.1 | exact zif_f c4 q.1)).symm⟩
  · refine s_ldI2 ok rfl ?_
    refine s_ci ok rfl ?_
    refine s_ci ok rfl ?_
    refine s_callS ok rfl rfl rfl rfl (ct_isIn za ⟨by omega, by omega⟩ ⟨by omega, by omega⟩) ?_
    refine s_if_eq ok rfl zif01 (fun c13 => ?_) (fun c13 => ?_)
    · refine s_ci ok rfl ?_
      refine s_retI ok rfl ⟨congrArg (fun z => some (Value.int (iI z))) (if_neg (fun q => by first | exact zif_f c39 (q.2.2 c18).2 | exact zif_f c28 (q.2.2 c18).1 | exact zif_f c13 q.2.1 | exact zif_f c4 q.1)).symm, congrArg (fun z => zJ (k, z, r, l, n)) (if_neg (fun q => by first | exact zif_f c39 (q.2.2 c18).2 | exact zif_f c28 (q.2.2 c18).1 | exact zif_f c13 q.2.1 | exact zif_f c4 q.1)).symm⟩
    · refine s_ldI2 ok rfl ?_
      refine s_ci ok rfl ?_
      refine s_c_eq ok rfl za ⟨by omega, by omega⟩ (fun c18 => ?_) (fun c18 => ?_)
      · refine s_ldI3 ok rfl ?_
        refine s_ci ok rfl ?_
        refine s_ci ok rfl ?_
        refine s_callS ok rfl rfl rfl rfl (ct_isIn z2 ⟨by omega, by omega⟩ ⟨by omega, by omega⟩) ?_
        refine s_if_eq ok rfl zif01 (fun c28 => ?_) (fun c28 => ?_)
        · refine s_ci ok rfl ?_
          refine s_retI ok rfl ⟨congrArg (fun z => some (Value.int (iI z))) (if_neg (fun q => by first | exact zif_f c39 (q.2.2 c18).2 | exact zif_f c28 (q.2.2 c18).1 | exact zif_f c13 q.2.1 | exact zif_f c4 q.1)).symm, congrArg (fun z => zJ (k, z, r, l, n)) (if_neg (fun q => by first | exact zif_f c39 (q.2.2 c18).2 | exact zif_f c28 (q.2.2 c18).1 | exact zif_f c13 q.2.1 | exact zif_f c4 q.1)).symm⟩
        · refine s_ldI4 ok rfl ?_
          refine s_ci ok rfl ?_
          refine s_ci ok rfl ?_
          refine s_callS ok rfl rfl rfl rfl (ct_isIn z3 ⟨by omega, by omega⟩ ⟨by omega, by omega⟩) ?_
          refine s_if_eq ok rfl zif01 (fun c39 => ?_) (fun c39 => ?_)
          · refine s_ci ok rfl ?_
            refine s_retI ok rfl ⟨congrArg (fun z => some (Value.int (iI z))) (if_neg (fun q => by first | exact zif_f c39 (q.2.2 c18).2 | exact zif_f c28 (q.2.2 c18).1 | exact zif_f c13 q.2.1 | exact zif_f c4 q.1)).symm, congrArg (fun z => zJ (k, z, r, l, n)) (if_neg (fun q => by first | exact zif_f c39 (q.2.2 c18).2 | exact zif_f c28 (q.2.2 c18).1 | exact zif_f c13 q.2.1 | exact zif_f c4 q.1)).symm⟩
          · have yt := zif_t c4
            have ya := zif_t c13
            refine s_ldA0 ok rfl ?_
            refine s_getF ok rfl rfl rfl rfl ?_
            refine s_ldI1 ok rfl ?_
            refine s_ldI2 ok rfl ?_
            refine s_iast ok rfl (by exact rfl) (by exact rfl) (by omega) (by omega) (fun q => by cases q) ?_
            refine s_ldA0 ok rfl ?_
            refine s_getF ok rfl rfl rfl rfl ?_
            refine s_ldI1 ok rfl ?_
            refine s_ldI3 ok rfl ?_
            refine s_iast ok rfl (by exact rfl) (by exact rfl) (by omega) (by omega) (fun q => by cases q) ?_
            refine s_ldA0 ok rfl ?_
            refine s_getF ok rfl rfl rfl rfl ?_
            refine s_ldI1 ok rfl ?_
            refine s_ldI4 ok rfl ?_
            refine s_iast ok rfl (by exact rfl) (by exact rfl) (by omega) (by omega) (fun q => by cases q) ?_
            refine s_ci ok rfl ?_
            refine s_retI ok rfl ⟨congrArg (fun z => some (Value.int (iI z))) (if_pos (show (0 ≤ t ∧ t < 8) ∧ (0 ≤ a ∧ a ≤ 1) ∧ (a = 1 → (0 ≤ b ∧ b ≤ 7) ∧ (0 ≤ c ∧ c ≤ 9)) from ⟨yt, ya, fun e => by first | exact absurd e c18 | exact ⟨zif_t c28, zif_t c39⟩⟩)).symm, congrArg (fun z => zJ (k, z, r, l, n)) (if_pos (show (0 ≤ t ∧ t < 8) ∧ (0 ≤ a ∧ a ≤ 1) ∧ (a = 1 → (0 ≤ b ∧ b ≤ 7) ∧ (0 ≤ c ∧ c ≤ 9)) from ⟨yt, ya, fun e => by first | exact absurd e c18 | exact ⟨zif_t c28, zif_t c39⟩⟩)).symm⟩
      · have yt := zif_t c4
        have ya := zif_t c13
        refine s_ldA0 ok rfl ?_
        refine s_getF ok rfl rfl rfl rfl ?_
        refine s_ldI1 ok rfl ?_
        refine s_ldI2 ok rfl ?_
        refine s_iast ok rfl (by exact rfl) (by exact rfl) (by omega) (by omega) (fun q => by cases q) ?_
        refine s_ldA0 ok rfl ?_
        refine s_getF ok rfl rfl rfl rfl ?_
        refine s_ldI1 ok rfl ?_
        refine s_ldI3 ok rfl ?_
        refine s_iast ok rfl (by exact rfl) (by exact rfl) (by omega) (by omega) (fun q => by cases q) ?_
        refine s_ldA0 ok rfl ?_
        refine s_getF ok rfl rfl rfl rfl ?_
        refine s_ldI1 ok rfl ?_
        refine s_ldI4 ok rfl ?_
        refine s_iast ok rfl (by exact rfl) (by exact rfl) (by omega) (by omega) (fun q => by cases q) ?_
        refine s_ci ok rfl ?_
        refine s_retI ok rfl ⟨congrArg (fun z => some (Value.int (iI z))) (if_pos (show (0 ≤ t ∧ t < 8) ∧ (0 ≤ a ∧ a ≤ 1) ∧ (a = 1 → (0 ≤ b ∧ b ≤ 7) ∧ (0 ≤ c ∧ c ≤ 9)) from ⟨yt, ya, fun e => by first | exact absurd e c18 | exact ⟨zif_t c28, zif_t c39⟩⟩)).symm, congrArg (fun z => zJ (k, z, r, l, n)) (if_pos (show (0 ≤ t ∧ t < 8) ∧ (0 ≤ a ∧ a ≤ 1) ∧ (a = 1 → (0 ≤ b ∧ b ≤ 7) ∧ (0 ≤ c ∧ c ≤ 9)) from ⟨yt, ya, fun e => by first | exact absurd e c18 | exact ⟨zif_t c28, zif_t c39⟩⟩)).symm⟩
