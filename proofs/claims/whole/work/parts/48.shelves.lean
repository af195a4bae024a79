/-! row, put, element, copy, cost, toss -/
/-- the first m places of the shelf t are zero -/
def sRz (g : Nat → Int → Int) (t m : Int) : Nat → Int → Int := fun q b => if q = 85 ∧ 100 * t ≤ b ∧ b < 100 * t + m then 0 else g q b
theorem sRz_0 {g : Nat → Int → Int} {t : Int} : sRz g t 0 = g := by
  funext q b
  exact if_neg (by omega)
theorem sRz_s {g : Nat → Int → Int} {t m : Int} (m0 : 0 ≤ m) : zv (sRz g t m) 85 (100 * t + m) 0 = sRz g t (m + 1) := by
  funext q b
  rw [zv_eq]
  unfold sRz
  by_cases e : q = 85 ∧ b = 100 * t + m
  · rw [if_pos e, if_pos (by omega)]
  · rw [if_neg e]
    by_cases e2 : q = 85 ∧ 100 * t ≤ b ∧ b < 100 * t + m
    · rw [if_pos e2, if_pos (by omega)]
    · rw [if_neg e2, if_neg (by omega)]
def sRow (h : Nat → Int → Int) (t a c : Int) : Nat → Int → Int := sRz (zv (zv (zv h 80 t 2) 83 t a) 84 t c) t 100
theorem lp_row {E : zE} {d : Nat} {k : Nat → Nat × Nat} {h : Nat → Int → Int} {r : Nat → Int → Option Nat} {l : Nat → Nat → Int64} {n : Nat} {Q : zQ} {t a b : Int} (t0 : 0 ≤ t) (t1 : t < 8) (hQ : Q (some (.int (iI 0))) (zJ (k, sRz h t 100, r, l, n))) : ∀ c : Nat, ∀ m : Nat, 100 < m + c → m ≤ 100 → zGo E (d + 2) M_X12_row 0 0 Q 55 ([some (.ref 59), some (.int (iI (t))), some (.int (iI (a))), some (.int (iI (b))), some (.int (iI ((m : Int))))], [], zJ (k, sRz h t (m : Int), r, l, n), 0, 0) := by
  have ok := ok_X12_row
  intro c
  induction c with
  | zero =>
    intros
    omega
  | succ c ih =>
    intro m g1 g2
    have e3 := sRz_s (g := h) (t := t) (m := (m : Int)) (by omega)
    refine s_ldI4 ok rfl ?_
    refine s_ci ok rfl ?_
    refine s_c_ge ok rfl (by first | exact hb _ _ | exact ⟨by omega, by omega⟩) (by first | exact hb _ _ | exact ⟨by omega, by omega⟩) (fun c59 => ?_) (fun c59 => ?_)
    · refine s_ci ok rfl ?_
      refine s_retI ok rfl (by rw [show m = 100 by omega]; exact hQ)
    · refine s_ldA0 ok rfl ?_
      refine s_getF ok rfl rfl rfl rfl ?_
      refine s_ci ok rfl ?_
      refine s_ldI1 ok rfl ?_
      refine s_mul ok rfl ?_
      refine s_ldI4 ok rfl ?_
      refine s_add ok rfl ?_
      refine s_ci ok rfl ?_
      refine s_iast ok rfl (by exact rfl) (by exact rfl) (by omega) (by omega) (fun q => by cases q) ?_
      refine s_inc4 ok rfl rfl ?_
      refine s_goto ok rfl ?_
      rw [e3]
      exact ih (m + 1) (by omega) (by omega)
theorem ct_row {E : zE} {d : Nat} {k : Nat → Nat × Nat} {h : Nat → Int → Int} {r : Nat → Int → Option Nat} {l : Nat → Nat → Int64} {n : Nat} {t a c : Int} (zt : zb t) (za : zb a) (zc : zb c) : zCT E (d + 2) M_X12_row [.ref 59, .int (iI (t)), .int (iI (a)), .int (iI (c))] (zJ (k, h, r, l, n)) 0 0 (zV (.int (iI (if (0 ≤ t ∧ t < 8) ∧ (0 ≤ a ∧ a ≤ 2) ∧ c ≤ 100 then (if c < 0 then -14 else 0) else -1))) (zJ (k, (if ((0 ≤ t ∧ t < 8) ∧ (0 ≤ a ∧ a ≤ 2) ∧ c ≤ 100) ∧ 0 ≤ c then sRow h t a c else h), r, l, n))) := by
  have ok := ok_X12_row
  refine zCT_of pn_X12_row (Nat.le_of_ble_eq_true rfl) ?_
  show zGo _ _ _ _ _ _ 0 ([some (.ref 59), some (.int (iI (t))), some (.int (iI (a))), some (.int (iI (c))), none], [], _, _, _)
  refine s_ldI1 ok rfl ?_
  refine s_callS ok rfl rfl rfl rfl (ct_isShelf zt) ?_
  refine s_if_eq ok rfl zif01 (fun c4 => ?_) (fun c4 => ?_)
  · refine s_ci ok rfl ?_
    refine s_retI ok rfl ⟨congrArg (fun z => some (Value.int (iI z))) (if_neg (fun q => by first | exact absurd c19 (by omega) | exact zif_f c13 q.2.1 | exact zif_f c4 q.1)).symm, congrArg (fun z => zJ (k, z, r, l, n)) (if_neg (fun q => by first | exact absurd c19 (by omega) | exact zif_f c13 q.1.2.1 | exact zif_f c4 q.1.1)).symm⟩
  · refine s_ldI2 ok rfl ?_
    refine s_ci ok rfl ?_
    refine s_ci ok rfl ?_
    refine s_callS ok rfl rfl rfl rfl (ct_isIn za ⟨by omega, by omega⟩ ⟨by omega, by omega⟩) ?_
    refine s_if_eq ok rfl zif01 (fun c13 => ?_) (fun c13 => ?_)
    · refine s_ci ok rfl ?_
      refine s_retI ok rfl ⟨congrArg (fun z => some (Value.int (iI z))) (if_neg (fun q => by first | exact absurd c19 (by omega) | exact zif_f c13 q.2.1 | exact zif_f c4 q.1)).symm, congrArg (fun z => zJ (k, z, r, l, n)) (if_neg (fun q => by first | exact absurd c19 (by omega) | exact zif_f c13 q.1.2.1 | exact zif_f c4 q.1.1)).symm⟩
    · refine s_ldI3 ok rfl ?_
      refine s_ci ok rfl ?_
      refine s_c_le ok rfl zc ⟨by omega, by omega⟩ (fun c19 => ?_) (fun c19 => ?_)
      · have yy : (0 ≤ t ∧ t < 8) ∧ (0 ≤ a ∧ a ≤ 2) ∧ c ≤ 100 := ⟨zif_t c4, zif_t c13, c19⟩
        refine s_ldI3 ok rfl ?_
        refine s_if_ge ok rfl zc (fun c25 => ?_) (fun c25 => ?_)
        · refine s_ldA0 ok rfl ?_
          refine s_getF ok rfl rfl rfl rfl ?_
          refine s_ldI1 ok rfl ?_
          refine s_ci ok rfl ?_
          refine s_iast ok rfl (by exact rfl) (by exact rfl) (by omega) (by omega) (fun q => by cases q) ?_
          refine s_ldA0 ok rfl ?_
          refine s_getF ok rfl rfl rfl rfl ?_
          refine s_ldI1 ok rfl ?_
          refine s_ldI2 ok rfl ?_
          refine s_iast ok rfl (by exact rfl) (by exact rfl) (by omega) (by omega) (fun q => by cases q) ?_
          refine s_ldA0 ok rfl ?_
          refine s_getF ok rfl rfl rfl rfl ?_
          refine s_ldI1 ok rfl ?_
          refine s_ldI3 ok rfl ?_
          refine s_iast ok rfl (by exact rfl) (by exact rfl) (by omega) (by omega) (fun q => by cases q) ?_
          refine s_ci ok rfl ?_
          refine s_stI4 ok rfl rfl ?_
          refine zgo_eq ?_ (lp_row (E := E) (d := d) (k := k) (r := r) (l := l) (n := n) (a := a) (b := c) (h := zv (zv (zv h 80 t 2) 83 t a) 84 t c) (Q := zV (.int (iI (if (0 ≤ t ∧ t < 8) ∧ (0 ≤ a ∧ a ≤ 2) ∧ c ≤ 100 then (if c < 0 then -14 else 0) else -1))) (zJ (k, (if ((0 ≤ t ∧ t < 8) ∧ (0 ≤ a ∧ a ≤ 2) ∧ c ≤ 100) ∧ 0 ≤ c then sRow h t a c else h), r, l, n))) yy.1.1 yy.1.2 ⟨congrArg (fun z => some (Value.int (iI z))) ((if_pos yy).trans (if_neg (by omega))).symm, congrArg (fun z => zJ (k, z, r, l, n)) (if_pos (And.intro yy c25)).symm⟩ 101 0 (by omega) (by omega))
          rw [show ((0 : Nat) : Int) = 0 from rfl, sRz_0]
          try rfl
        · refine s_ci ok rfl ?_
          refine s_retI ok rfl ⟨congrArg (fun z => some (Value.int (iI z))) ((if_pos yy).trans (if_pos c25)).symm, congrArg (fun z => zJ (k, z, r, l, n)) (if_neg (fun q => by omega)).symm⟩
      · refine s_ci ok rfl ?_
        refine s_retI ok rfl ⟨congrArg (fun z => some (Value.int (iI z))) (if_neg (fun q => by first | exact absurd c19 (by omega) | exact zif_f c13 q.2.1 | exact zif_f c4 q.1)).symm, congrArg (fun z => zJ (k, z, r, l, n)) (if_neg (fun q => by first | exact absurd c19 (by omega) | exact zif_f c13 q.1.2.1 | exact zif_f c4 q.1.1)).symm⟩
/-- v kept as narrow as the sort a is -/
def nwV (a v : Int) : Int := if a = 0 then (iI v).toInt8.toInt32.toInt else if a = 1 then (iI v).toInt16.toInt32.toInt else v
theorem nwV_8 {a v : Int} (h : a = 0) : (iI v).toInt8.toInt32 = iI (nwV a v) := by
  unfold nwV
  rw [if_pos h, iI_of]
theorem nwV_16 {a v : Int} (h0 : ¬ a = 0) (h : a = 1) : (iI v).toInt16.toInt32 = iI (nwV a v) := by
  unfold nwV
  rw [if_neg h0, if_pos h, iI_of]
theorem nwV_32 {a v : Int} (h0 : ¬ a = 0) (h : ¬ a = 1) : v = nwV a v := by
  unfold nwV
  rw [if_neg h0, if_neg h]
theorem ct_put {E : zE} {d : Nat} {k : Nat → Nat × Nat} {h : Nat → Int → Int} {r : Nat → Int → Option Nat} {l : Nat → Nat → Int64} {n : Nat} (hk : dKp h) {t a b : Int} (zt : zb t) (za : zb a) (z2 : zb b) : zCT E (d + 3) M_X12_put [.ref 59, .int (iI (t)), .int (iI (a)), .int (iI (b))] (zJ (k, h, r, l, n)) 0 0 (zV (.int (iI (if sWR h t (-1) = 0 then (if 0 ≤ a ∧ a < h 84 t then 0 else -13) else sWR h t (-1)))) (zJ (k, (if sWR h t (-1) = 0 ∧ 0 ≤ a ∧ a < h 84 t then zv h 85 (100 * t + a) (nwV (h 83 t) b) else h), r, l, n))) := by
  have ok := ok_X12_put
  refine zCT_of pn_X12_put (Nat.le_of_ble_eq_true rfl) ?_
  show zGo _ _ _ _ _ _ 0 ([some (.ref 59), some (.int (iI (t))), some (.int (iI (a))), some (.int (iI (b))), none], [], _, _, _)
  obtain ⟨w0, w1, w2⟩ := sWR_in (h := h) (x := t) (b := -1)
  have s0 := hk.2.2.1 t
  refine s_ldA0 ok rfl ?_
  refine s_ldI1 ok rfl ?_
  refine s_ci ok rfl ?_
  refine s_callV ok rfl rfl rfl rfl rfl rfl (ct_wrongRow zt ⟨by omega, by omega⟩ hk.1 hk.2.1) ?_
  refine s_stI4 ok rfl rfl ?_
  refine s_ldI4 ok rfl ?_
  refine s_if_eq ok rfl (by first | exact hb _ _ | exact ⟨by omega, by omega⟩) (fun c10 => ?_) (fun c10 => ?_)
  · obtain ⟨x0, x1⟩ := w2 c10
    refine s_ldI2 ok rfl ?_
    refine s_ci ok rfl ?_
    refine s_ldA0 ok rfl ?_
    refine s_getF ok rfl rfl rfl rfl ?_
    refine s_ldI1 ok rfl ?_
    refine s_iald ok rfl (by exact rfl) (by exact rfl) (by omega) (by omega) ?_
    refine s_ci ok rfl ?_
    refine s_sub ok rfl ?_
    refine s_callS ok rfl rfl rfl rfl (ct_isIn za ⟨by omega, by omega⟩ ⟨by omega, by omega⟩) ?_
    refine s_if_eq ok rfl zif01 (fun c29 => ?_) (fun c29 => ?_)
    · refine s_ci ok rfl ?_
      refine s_retI ok rfl ⟨congrArg (fun z => some (Value.int (iI z))) ((if_pos c10).trans (if_neg (fun q => zif_f c29 (by omega)))).symm, congrArg (fun z => zJ (k, z, r, l, n)) (if_neg (fun q => zif_f c29 (by omega))).symm⟩
    · have ya : 0 ≤ a ∧ a < h 84 t := by have := zif_t c29; omega
      refine s_ldA0 ok rfl ?_
      refine s_getF ok rfl rfl rfl rfl ?_
      refine s_ci ok rfl ?_
      refine s_ldI1 ok rfl ?_
      refine s_mul ok rfl ?_
      refine s_ldI2 ok rfl ?_
      refine s_add ok rfl ?_
      refine s_ldA0 ok rfl ?_
      refine s_getF ok rfl rfl rfl rfl ?_
      refine s_ldI1 ok rfl ?_
      refine s_iald ok rfl (by exact rfl) (by exact rfl) (by omega) (by omega) ?_
      refine s_if_eq ok rfl (hk.2.1 t) (fun c51 => ?_) (fun c51 => ?_)
      · refine s_ldI3 ok rfl ?_
        refine s_i2i ok rfl (nwV_8 c51) ?_
        refine s_goto ok rfl ?_
        skip
        refine s_iast ok rfl (by exact rfl) (by exact rfl) (by omega) (by omega) (fun q => by cases q) ?_
        refine s_ci ok rfl ?_
        refine s_retI ok rfl ⟨congrArg (fun z => some (Value.int (iI z))) ((if_pos c10).trans (if_pos ya)).symm, congrArg (fun z => zJ (k, z, r, l, n)) (Eq.trans (by first | rfl | rw [← nwV_32 c51 c66]) (if_pos (And.intro c10 ya)).symm)⟩
      · refine s_ldA0 ok rfl ?_
        refine s_getF ok rfl rfl rfl rfl ?_
        refine s_ldI1 ok rfl ?_
        refine s_iald ok rfl (by exact rfl) (by exact rfl) (by omega) (by omega) ?_
        refine s_ci ok rfl ?_
        refine s_c_eq ok rfl (hk.2.1 t) ⟨by omega, by omega⟩ (fun c66 => ?_) (fun c66 => ?_)
        · refine s_ldI3 ok rfl ?_
          refine s_i2i ok rfl (nwV_16 c51 c66) ?_
          refine s_goto ok rfl ?_
          skip
          refine s_iast ok rfl (by exact rfl) (by exact rfl) (by omega) (by omega) (fun q => by cases q) ?_
          refine s_ci ok rfl ?_
          refine s_retI ok rfl ⟨congrArg (fun z => some (Value.int (iI z))) ((if_pos c10).trans (if_pos ya)).symm, congrArg (fun z => zJ (k, z, r, l, n)) (Eq.trans (by first | rfl | rw [← nwV_32 c51 c66]) (if_pos (And.intro c10 ya)).symm)⟩
        · refine s_ldI3 ok rfl ?_
          skip
          refine s_iast ok rfl (by exact rfl) (by exact rfl) (by omega) (by omega) (fun q => by cases q) ?_
          refine s_ci ok rfl ?_
          refine s_retI ok rfl ⟨congrArg (fun z => some (Value.int (iI z))) ((if_pos c10).trans (if_pos ya)).symm, congrArg (fun z => zJ (k, z, r, l, n)) (Eq.trans (by first | rfl | rw [← nwV_32 c51 c66]) (if_pos (And.intro c10 ya)).symm)⟩
  · refine s_ldI4 ok rfl ?_
    refine s_retI ok rfl ⟨congrArg (fun z => some (Value.int (iI z))) (if_neg c10).symm, congrArg (fun z => zJ (k, z, r, l, n)) (if_neg (fun q => c10 q.1)).symm⟩
/-- whether element throws, and which -/
def sTh (h : Nat → Int → Int) (t a : Int) : Int := if ¬ (0 ≤ t ∧ t < 8) then 1 else if h 80 t = 2 ∧ 0 ≤ a ∧ a < h 84 t then 0 else 2
theorem sTh_in {h : Nat → Int → Int} {t a : Int} : zb (sTh h t a) ∧ (sTh h t a = 0 → (0 ≤ t ∧ t < 8) ∧ h 80 t = 2 ∧ 0 ≤ a ∧ a < h 84 t) := by
  unfold sTh zb
  split
  · omega
  · split <;> omega
theorem ct_element9 {E : zE} {d : Nat} {k : Nat → Nat × Nat} {h : Nat → Int → Int} {r : Nat → Int → Option Nat} {l : Nat → Nat → Int64} {n : Nat} (hk : dKp h) {t a : Int} (zt : zb t) (za : zb a) : zCT E (d + 2) M_X12_element [.ref 59, .int (iI (t)), .int (iI (a))] (zJ (k, h, r, l, n)) 0 0 (zV (.long (if sTh h t a = 0 then lI (h 85 (100 * t + a)) else 0)) (zJ (k, zv h 59 36 (sTh h t a), r, l, n))) := by
  have ok := ok_X12_element
  refine zCT_of pn_X12_element (Nat.le_of_ble_eq_true rfl) ?_
  show zGo _ _ _ _ _ _ 0 ([some (.ref 59), some (.int (iI (t))), some (.int (iI (a)))], [], _, _, _)
  have s0 := hk.2.2.1 t
  obtain ⟨h9a, h9b⟩ := sTh_in (h := h) (t := t) (a := a)
  have h36 : zv h 59 36 (sTh h t a) 59 36 = sTh h t a := zv_is
  refine s_ldA0 ok rfl ?_
  refine s_ldI1 ok rfl ?_
  refine s_callS ok rfl rfl rfl rfl (ct_isShelf zt) ?_
  refine s_if_eq ok rfl zif01 (fun c5 => ?_) (fun c5 => ?_)
  · refine s_ci ok rfl ?_
    refine s_goto ok rfl ?_
    refine zgo_eq (c' := ([some (.ref 59), some (.int (iI t)), some (.int (iI a))], [.int (iI (sTh h t a)), .ref 59], zJ (k, h, r, l, n), 0, 0)) (by unfold sTh; first | rw [if_pos (zif_f c5)] | rw [if_neg (fun q => q yt), if_neg (by omega)] | rw [if_neg (fun q => q yt), if_neg (fun q => zif_f c35 (by omega))] | rw [if_neg (fun q => q yt), if_pos (by have z := zif_t c35; omega)]) ?_
    refine s_putJ 36 ok rfl rfl rfl rfl (fun q => by cases q) ?_
    refine s_ldA0 ok rfl ?_
    refine s_getJ 36 ok rfl rfl rfl rfl ?_
    rw [h36]
    refine s_if_eq ok rfl h9a (fun c50 => ?_) (fun c50 => ?_)
    · have yq := h9b c50
      refine s_ldA0 ok rfl ?_
      refine s_getF ok rfl rfl rfl rfl ?_
      refine s_ci ok rfl ?_
      refine s_ldI1 ok rfl ?_
      refine s_mul ok rfl ?_
      refine s_ldI2 ok rfl ?_
      refine s_add ok rfl ?_
      refine s_iald ok rfl (by exact rfl) (by exact rfl) (by omega) (by omega) ?_
      refine s_i2l ok rfl ?_
      rw [show zv h 59 36 (sTh h t a) 85 (100 * t + a) = h 85 (100 * t + a) from rfl, iI_l (hk.2.2.2 _)]
      refine s_goto ok rfl ?_
      refine s_retL ok rfl ⟨congrArg (fun z => some (Value.long z)) (by first | exact (if_pos c50).symm | exact (if_neg c50).symm), rfl⟩
    · refine s_cl ok rfl ?_
      refine s_retL ok rfl ⟨congrArg (fun z => some (Value.long z)) (by first | exact (if_pos c50).symm | exact (if_neg c50).symm), rfl⟩
  · have yt := zif_t c5
    refine s_ldA0 ok rfl ?_
    refine s_getF ok rfl rfl rfl rfl ?_
    refine s_ldI1 ok rfl ?_
    refine s_iald ok rfl (by exact rfl) (by exact rfl) (by omega) (by omega) ?_
    refine s_ci ok rfl ?_
    refine s_c_eq ok rfl (hk.1 t) ⟨by omega, by omega⟩ (fun c19 => ?_) (fun c19 => ?_)
    · refine s_ldI2 ok rfl ?_
      refine s_ci ok rfl ?_
      refine s_ldA0 ok rfl ?_
      refine s_getF ok rfl rfl rfl rfl ?_
      refine s_ldI1 ok rfl ?_
      refine s_iald ok rfl (by exact rfl) (by exact rfl) (by omega) (by omega) ?_
      refine s_ci ok rfl ?_
      refine s_sub ok rfl ?_
      refine s_callS ok rfl rfl rfl rfl (ct_isIn za ⟨by omega, by omega⟩ ⟨by omega, by omega⟩) ?_
      refine s_if_eq ok rfl zif01 (fun c35 => ?_) (fun c35 => ?_)
      · refine s_ci ok rfl ?_
        refine s_goto ok rfl ?_
        refine zgo_eq (c' := ([some (.ref 59), some (.int (iI t)), some (.int (iI a))], [.int (iI (sTh h t a)), .ref 59], zJ (k, h, r, l, n), 0, 0)) (by unfold sTh; first | rw [if_pos (zif_f c5)] | rw [if_neg (fun q => q yt), if_neg (by omega)] | rw [if_neg (fun q => q yt), if_neg (fun q => zif_f c35 (by omega))] | rw [if_neg (fun q => q yt), if_pos (by have z := zif_t c35; omega)]) ?_
        refine s_putJ 36 ok rfl rfl rfl rfl (fun q => by cases q) ?_
        refine s_ldA0 ok rfl ?_
        refine s_getJ 36 ok rfl rfl rfl rfl ?_
        rw [h36]
        refine s_if_eq ok rfl h9a (fun c50 => ?_) (fun c50 => ?_)
        · have yq := h9b c50
          refine s_ldA0 ok rfl ?_
          refine s_getF ok rfl rfl rfl rfl ?_
          refine s_ci ok rfl ?_
          refine s_ldI1 ok rfl ?_
          refine s_mul ok rfl ?_
          refine s_ldI2 ok rfl ?_
          refine s_add ok rfl ?_
          refine s_iald ok rfl (by exact rfl) (by exact rfl) (by omega) (by omega) ?_
          refine s_i2l ok rfl ?_
          rw [show zv h 59 36 (sTh h t a) 85 (100 * t + a) = h 85 (100 * t + a) from rfl, iI_l (hk.2.2.2 _)]
          refine s_goto ok rfl ?_
          refine s_retL ok rfl ⟨congrArg (fun z => some (Value.long z)) (by first | exact (if_pos c50).symm | exact (if_neg c50).symm), rfl⟩
        · refine s_cl ok rfl ?_
          refine s_retL ok rfl ⟨congrArg (fun z => some (Value.long z)) (by first | exact (if_pos c50).symm | exact (if_neg c50).symm), rfl⟩
      · refine s_ci ok rfl ?_
        refine zgo_eq (c' := ([some (.ref 59), some (.int (iI t)), some (.int (iI a))], [.int (iI (sTh h t a)), .ref 59], zJ (k, h, r, l, n), 0, 0)) (by unfold sTh; first | rw [if_pos (zif_f c5)] | rw [if_neg (fun q => q yt), if_neg (by omega)] | rw [if_neg (fun q => q yt), if_neg (fun q => zif_f c35 (by omega))] | rw [if_neg (fun q => q yt), if_pos (by have z := zif_t c35; omega)]) ?_
        refine s_putJ 36 ok rfl rfl rfl rfl (fun q => by cases q) ?_
        refine s_ldA0 ok rfl ?_
        refine s_getJ 36 ok rfl rfl rfl rfl ?_
        rw [h36]
        refine s_if_eq ok rfl h9a (fun c50 => ?_) (fun c50 => ?_)
        · have yq := h9b c50
          refine s_ldA0 ok rfl ?_
          refine s_getF ok rfl rfl rfl rfl ?_
          refine s_ci ok rfl ?_
          refine s_ldI1 ok rfl ?_
          refine s_mul ok rfl ?_
          refine s_ldI2 ok rfl ?_
          refine s_add ok rfl ?_
          refine s_iald ok rfl (by exact rfl) (by exact rfl) (by omega) (by omega) ?_
          refine s_i2l ok rfl ?_
          rw [show zv h 59 36 (sTh h t a) 85 (100 * t + a) = h 85 (100 * t + a) from rfl, iI_l (hk.2.2.2 _)]
          refine s_goto ok rfl ?_
          refine s_retL ok rfl ⟨congrArg (fun z => some (Value.long z)) (by first | exact (if_pos c50).symm | exact (if_neg c50).symm), rfl⟩
        · refine s_cl ok rfl ?_
          refine s_retL ok rfl ⟨congrArg (fun z => some (Value.long z)) (by first | exact (if_pos c50).symm | exact (if_neg c50).symm), rfl⟩
    · refine s_ci ok rfl ?_
      refine s_goto ok rfl ?_
      refine zgo_eq (c' := ([some (.ref 59), some (.int (iI t)), some (.int (iI a))], [.int (iI (sTh h t a)), .ref 59], zJ (k, h, r, l, n), 0, 0)) (by unfold sTh; first | rw [if_pos (zif_f c5)] | rw [if_neg (fun q => q yt), if_neg (by omega)] | rw [if_neg (fun q => q yt), if_neg (fun q => zif_f c35 (by omega))] | rw [if_neg (fun q => q yt), if_pos (by have z := zif_t c35; omega)]) ?_
      refine s_putJ 36 ok rfl rfl rfl rfl (fun q => by cases q) ?_
      refine s_ldA0 ok rfl ?_
      refine s_getJ 36 ok rfl rfl rfl rfl ?_
      rw [h36]
      refine s_if_eq ok rfl h9a (fun c50 => ?_) (fun c50 => ?_)
      · have yq := h9b c50
        refine s_ldA0 ok rfl ?_
        refine s_getF ok rfl rfl rfl rfl ?_
        refine s_ci ok rfl ?_
        refine s_ldI1 ok rfl ?_
        refine s_mul ok rfl ?_
        refine s_ldI2 ok rfl ?_
        refine s_add ok rfl ?_
        refine s_iald ok rfl (by exact rfl) (by exact rfl) (by omega) (by omega) ?_
        refine s_i2l ok rfl ?_
        rw [show zv h 59 36 (sTh h t a) 85 (100 * t + a) = h 85 (100 * t + a) from rfl, iI_l (hk.2.2.2 _)]
        refine s_goto ok rfl ?_
        refine s_retL ok rfl ⟨congrArg (fun z => some (Value.long z)) (by first | exact (if_pos c50).symm | exact (if_neg c50).symm), rfl⟩
      · refine s_cl ok rfl ?_
        refine s_retL ok rfl ⟨congrArg (fun z => some (Value.long z)) (by first | exact (if_pos c50).symm | exact (if_neg c50).symm), rfl⟩
/-- the places from lo to hi are those of the run at D, laid at E -/
def sCr (h : Nat → Int → Int) (D E lo hi : Int) : Nat → Int → Int := fun q b => if q = 85 ∧ lo ≤ b ∧ b < hi then h 85 (b - E + D) else h q b
theorem sCr_0 {h : Nat → Int → Int} {D E lo hi : Int} (e : hi ≤ lo) : sCr h D E lo hi = h := by
  funext q b
  exact if_neg (by omega)
theorem sCr_out {h : Nat → Int → Int} {D E lo hi b : Int} (e : ¬ (lo ≤ b ∧ b < hi)) : sCr h D E lo hi 85 b = h 85 b := if_neg (fun q => e q.2)
theorem sCr_up {h : Nat → Int → Int} {D E lo hi : Int} (e : lo ≤ hi) : zv (sCr h D E lo hi) 85 hi (h 85 (hi - E + D)) = sCr h D E lo (hi + 1) := by
  funext q b
  rw [zv_eq]
  unfold sCr
  by_cases c : q = 85 ∧ b = hi
  · rw [if_pos c, if_pos (by omega), c.2]
  · rw [if_neg c]
    by_cases c2 : q = 85 ∧ lo ≤ b ∧ b < hi
    · rw [if_pos c2, if_pos (by omega)]
    · rw [if_neg c2, if_neg (by omega)]
theorem sCr_dn {h : Nat → Int → Int} {D E lo hi : Int} (e : lo ≤ hi) : zv (sCr h D E lo hi) 85 (lo - 1) (h 85 (lo - 1 - E + D)) = sCr h D E (lo - 1) hi := by
  funext q b
  rw [zv_eq]
  unfold sCr
  by_cases c : q = 85 ∧ b = lo - 1
  · rw [if_pos c, if_pos (by omega), c.2]
  · rw [if_neg c]
    by_cases c2 : q = 85 ∧ lo ≤ b ∧ b < hi
    · rw [if_pos c2, if_pos (by omega)]
    · rw [if_neg c2, if_neg (by omega)]
theorem lp_copyU {E : zE} {d : Nat} {k : Nat → Nat × Nat} {h : Nat → Int → Int} {r : Nat → Int → Option Nat} {l : Nat → Nat → Int64} {n : Nat} {Q : zQ} {t a e b m9 : Int} (t0 : 0 ≤ t) (t1 : t < 8) (e0 : 0 ≤ e) (e1 : e < 8) (a0 : 0 ≤ a) (b0 : 0 ≤ b) (n0 : 0 ≤ m9) (an : a + m9 ≤ 100) (bn : b + m9 ≤ 100) (hab : b < a) (hQ : Q (some (.int (iI m9))) (zJ (k, sCr h (100 * t + a) (100 * e + b) (100 * e + b) ((100 * e + b) + m9), r, l, n))) : ∀ c : Nat, ∀ (m : Nat) (u : Option Value), znl u = true → m9 < m + c → m ≤ m9 → zGo E (d + 3) M_X12_copy 0 0 Q 122 ([some (.ref 59), some (.int (iI (t))), some (.int (iI (a))), some (.int (iI (e))), some (.int (iI (b))), some (.int (iI (m9))), some (.int (iI ((m : Int)))), u], [], zJ (k, sCr h (100 * t + a) (100 * e + b) (100 * e + b) ((100 * e + b) + (m : Int)), r, l, n), 0, 0) := by
  have ok := ok_X12_copy
  intro c
  induction c with
  | zero =>
    intros
    omega
  | succ c ih =>
    intro m u hu g1 g2
    refine s_ldI6 ok rfl ?_
    refine s_ldI5 ok rfl ?_
    refine s_c_ge ok rfl (by first | exact hb _ _ | exact ⟨by omega, by omega⟩) (by first | exact hb _ _ | exact ⟨by omega, by omega⟩) (fun c126 => ?_) (fun c126 => ?_)
    · refine s_ldI5 ok rfl ?_
      refine s_retI ok rfl (by have em : (m : Int) = m9 := (by omega); rw [em]; exact hQ)
    · refine s_ldI2 ok rfl ?_
      refine s_ldI4 ok rfl ?_
      refine s_c_le ok rfl (by first | exact hb _ _ | exact ⟨by omega, by omega⟩) (by first | exact hb _ _ | exact ⟨by omega, by omega⟩) (fun c132 => ?_) (fun c132 => ?_)
      · exact absurd c132 (by omega)
      · refine s_ldI6 ok rfl ?_
        refine s_goto ok rfl ?_
        refine s_stI7 ok rfl rfl ?_
        refine s_ldA0 ok rfl ?_
        refine s_getF ok rfl rfl rfl rfl ?_
        refine s_ci ok rfl ?_
        refine s_ldI3 ok rfl ?_
        refine s_mul ok rfl ?_
        refine s_ldI4 ok rfl ?_
        refine s_add ok rfl ?_
        refine s_ldI7 ok rfl ?_
        refine s_add ok rfl ?_
        refine s_ldA0 ok rfl ?_
        refine s_getF ok rfl rfl rfl rfl ?_
        refine s_ci ok rfl ?_
        refine s_ldI1 ok rfl ?_
        refine s_mul ok rfl ?_
        refine s_ldI2 ok rfl ?_
        refine s_add ok rfl ?_
        refine s_ldI7 ok rfl ?_
        refine s_add ok rfl ?_
        refine s_iald ok rfl (by exact rfl) (by exact rfl) (by omega) (by omega) ?_
        rw [sCr_out (by omega)]
        have e3 := sCr_up (h := h) (D := (100 * t + a)) (E := (100 * e + b)) (lo := (100 * e + b)) (hi := ((100 * e + b) + (m : Int))) (by omega)
        rw [show ((100 * e + b) + (m : Int)) - (100 * e + b) + (100 * t + a) = 100 * t + a + ((m : Int)) by omega] at e3
        refine s_iast ok rfl (by exact rfl) (by exact rfl) (by omega) (by omega) (fun q => by cases q) ?_
        refine s_inc6 ok rfl rfl ?_
        refine s_goto ok rfl ?_
        rw [show 100 * e + b + ((m : Int)) = ((100 * e + b) + (m : Int)) by omega, e3]
        have hh := ih (m + 1) (some (.int (iI ((m : Int))))) rfl (by omega) (by omega)
        rw [show ((100 * e + b) + ((m + 1 : Nat) : Int)) = ((100 * e + b) + (m : Int)) + 1 by omega] at hh
        exact hh
theorem lp_copyD {E : zE} {d : Nat} {k : Nat → Nat × Nat} {h : Nat → Int → Int} {r : Nat → Int → Option Nat} {l : Nat → Nat → Int64} {n : Nat} {Q : zQ} {t a e b m9 : Int} (t0 : 0 ≤ t) (t1 : t < 8) (e0 : 0 ≤ e) (e1 : e < 8) (a0 : 0 ≤ a) (b0 : 0 ≤ b) (n0 : 0 ≤ m9) (an : a + m9 ≤ 100) (bn : b + m9 ≤ 100) (hab : a ≤ b) (hQ : Q (some (.int (iI m9))) (zJ (k, sCr h (100 * t + a) (100 * e + b) (100 * e + b) ((100 * e + b) + m9), r, l, n))) : ∀ c : Nat, ∀ (m : Nat) (u : Option Value), znl u = true → m9 < m + c → m ≤ m9 → zGo E (d + 3) M_X12_copy 0 0 Q 122 ([some (.ref 59), some (.int (iI (t))), some (.int (iI (a))), some (.int (iI (e))), some (.int (iI (b))), some (.int (iI (m9))), some (.int (iI ((m : Int)))), u], [], zJ (k, sCr h (100 * t + a) (100 * e + b) ((100 * e + b) + m9 - (m : Int)) ((100 * e + b) + m9), r, l, n), 0, 0) := by
  have ok := ok_X12_copy
  intro c
  induction c with
  | zero =>
    intros
    omega
  | succ c ih =>
    intro m u hu g1 g2
    refine s_ldI6 ok rfl ?_
    refine s_ldI5 ok rfl ?_
    refine s_c_ge ok rfl (by first | exact hb _ _ | exact ⟨by omega, by omega⟩) (by first | exact hb _ _ | exact ⟨by omega, by omega⟩) (fun c126 => ?_) (fun c126 => ?_)
    · refine s_ldI5 ok rfl ?_
      refine s_retI ok rfl (by have em : (m : Int) = m9 := (by omega); rw [em, show (100 * e + b) + m9 - m9 = (100 * e + b) by omega]; exact hQ)
    · refine s_ldI2 ok rfl ?_
      refine s_ldI4 ok rfl ?_
      refine s_c_le ok rfl (by first | exact hb _ _ | exact ⟨by omega, by omega⟩) (by first | exact hb _ _ | exact ⟨by omega, by omega⟩) (fun c132 => ?_) (fun c132 => ?_)
      · refine s_ldI5 ok rfl ?_
        refine s_ci ok rfl ?_
        refine s_sub ok rfl ?_
        refine s_ldI6 ok rfl ?_
        refine s_sub ok rfl ?_
        refine s_stI7 ok rfl rfl ?_
        refine s_ldA0 ok rfl ?_
        refine s_getF ok rfl rfl rfl rfl ?_
        refine s_ci ok rfl ?_
        refine s_ldI3 ok rfl ?_
        refine s_mul ok rfl ?_
        refine s_ldI4 ok rfl ?_
        refine s_add ok rfl ?_
        refine s_ldI7 ok rfl ?_
        refine s_add ok rfl ?_
        refine s_ldA0 ok rfl ?_
        refine s_getF ok rfl rfl rfl rfl ?_
        refine s_ci ok rfl ?_
        refine s_ldI1 ok rfl ?_
        refine s_mul ok rfl ?_
        refine s_ldI2 ok rfl ?_
        refine s_add ok rfl ?_
        refine s_ldI7 ok rfl ?_
        refine s_add ok rfl ?_
        refine s_iald ok rfl (by exact rfl) (by exact rfl) (by omega) (by omega) ?_
        rw [sCr_out (by omega)]
        have e3 := sCr_dn (h := h) (D := (100 * t + a)) (E := (100 * e + b)) (lo := ((100 * e + b) + m9 - (m : Int))) (hi := ((100 * e + b) + m9)) (by omega)
        rw [show ((100 * e + b) + m9 - (m : Int)) - 1 - (100 * e + b) + (100 * t + a) = 100 * t + a + (m9 - 1 - (m : Int)) by omega] at e3
        refine s_iast ok rfl (by exact rfl) (by exact rfl) (by omega) (by omega) (fun q => by cases q) ?_
        refine s_inc6 ok rfl rfl ?_
        refine s_goto ok rfl ?_
        rw [show 100 * e + b + (m9 - 1 - (m : Int)) = ((100 * e + b) + m9 - (m : Int)) - 1 by omega, e3]
        have hh := ih (m + 1) (some (.int (iI (m9 - 1 - (m : Int))))) rfl (by omega) (by omega)
        rw [show ((100 * e + b) + m9 - ((m + 1 : Nat) : Int)) = ((100 * e + b) + m9 - (m : Int)) - 1 by omega] at hh
        exact hh
      · exact absurd c132 (by omega)
theorem ct_copy {E : zE} {d : Nat} {k : Nat → Nat × Nat} {h : Nat → Int → Int} {r : Nat → Int → Option Nat} {l : Nat → Nat → Int64} {n : Nat} (hk : dKp h) {t a e b m9 : Int} (zt : zb t) (za : zb a) (ze : zb e) (z2 : zb b) (zn : zb m9) : zCT E (d + 3) M_X12_copy [.ref 59, .int (iI (t)), .int (iI (a)), .int (iI (e)), .int (iI (b)), .int (iI (m9))] (zJ (k, h, r, l, n)) 0 0 (zV (.int (iI (if (0 ≤ t ∧ t < 8) ∧ (0 ≤ e ∧ e < 8) then (if h 80 t = 0 ∨ h 80 e = 0 then -11 else if ¬ (h 80 t = 2 ∧ h 80 e = 2 ∧ h 83 t = h 83 e) then -12 else if (m9 < 0 ∨ a < 0 ∨ b < 0 ∨ h 84 t - a < m9 ∨ h 84 e - b < m9) then -13 else m9) else -1))) (zJ (k, (if ((0 ≤ t ∧ t < 8) ∧ (0 ≤ e ∧ e < 8)) ∧ (h 80 t = 2 ∧ h 80 e = 2 ∧ h 83 t = h 83 e) ∧ ¬ (m9 < 0 ∨ a < 0 ∨ b < 0 ∨ h 84 t - a < m9 ∨ h 84 e - b < m9) then sCr h (100 * t + a) (100 * e + b) (100 * e + b) ((100 * e + b) + m9) else h), r, l, n))) := by
  have ok := ok_X12_copy
  refine zCT_of pn_X12_copy (Nat.le_of_ble_eq_true rfl) ?_
  show zGo _ _ _ _ _ _ 0 ([some (.ref 59), some (.int (iI (t))), some (.int (iI (a))), some (.int (iI (e))), some (.int (iI (b))), some (.int (iI (m9))), none, none], [], _, _, _)
  have s0 := hk.2.2.1 t
  have s1 := hk.2.2.1 e
  obtain ⟨ua0, ua1⟩ := za
  obtain ⟨ub0, ub1⟩ := z2
  obtain ⟨un0, un1⟩ := zn
  refine s_ldI1 ok rfl ?_
  refine s_callS ok rfl rfl rfl rfl (ct_isShelf zt) ?_
  refine s_if_eq ok rfl zif01 (fun c4 => ?_) (fun c4 => ?_)
  · refine s_ci ok rfl ?_
    refine s_retI ok rfl ⟨congrArg (fun z => some (Value.int (iI z))) (if_neg (fun q => by first | exact zif_f c11 q.2 | exact zif_f c4 q.1)).symm, congrArg (fun z => zJ (k, z, r, l, n)) (if_neg (fun q => by first | exact zif_f c11 q.1.2 | exact zif_f c4 q.1.1)).symm⟩
  · refine s_ldI3 ok rfl ?_
    refine s_callS ok rfl rfl rfl rfl (ct_isShelf ze) ?_
    refine s_if_eq ok rfl zif01 (fun c11 => ?_) (fun c11 => ?_)
    · refine s_ci ok rfl ?_
      refine s_retI ok rfl ⟨congrArg (fun z => some (Value.int (iI z))) (if_neg (fun q => by first | exact zif_f c11 q.2 | exact zif_f c4 q.1)).symm, congrArg (fun z => zJ (k, z, r, l, n)) (if_neg (fun q => by first | exact zif_f c11 q.1.2 | exact zif_f c4 q.1.1)).symm⟩
    · have yy : (0 ≤ t ∧ t < 8) ∧ (0 ≤ e ∧ e < 8) := ⟨zif_t c4, zif_t c11⟩
      refine s_ldA0 ok rfl ?_
      refine s_getF ok rfl rfl rfl rfl ?_
      refine s_ldI1 ok rfl ?_
      refine s_iald ok rfl (by exact rfl) (by exact rfl) (by omega) (by omega) ?_
      refine s_if_eq ok rfl (hk.1 t) (fun c22 => ?_) (fun c22 => ?_)
      · refine s_ci ok rfl ?_
        refine s_retI ok rfl ⟨congrArg (fun z => some (Value.int (iI z))) ((if_pos yy).trans (if_pos (by omega))).symm, congrArg (fun z => zJ (k, z, r, l, n)) (if_neg (fun q => by omega)).symm⟩
      · refine s_ldA0 ok rfl ?_
        refine s_getF ok rfl rfl rfl rfl ?_
        refine s_ldI3 ok rfl ?_
        refine s_iald ok rfl (by exact rfl) (by exact rfl) (by omega) (by omega) ?_
        refine s_if_eq ok rfl (hk.1 e) (fun c31 => ?_) (fun c31 => ?_)
        · refine s_ci ok rfl ?_
          refine s_retI ok rfl ⟨congrArg (fun z => some (Value.int (iI z))) ((if_pos yy).trans (if_pos (by omega))).symm, congrArg (fun z => zJ (k, z, r, l, n)) (if_neg (fun q => by omega)).symm⟩
        · refine s_ldA0 ok rfl ?_
          refine s_getF ok rfl rfl rfl rfl ?_
          refine s_ldI1 ok rfl ?_
          refine s_iald ok rfl (by exact rfl) (by exact rfl) (by omega) (by omega) ?_
          refine s_ci ok rfl ?_
          refine s_c_eq ok rfl (hk.1 t) ⟨by omega, by omega⟩ (fun c44 => ?_) (fun c44 => ?_)
          · refine s_ldA0 ok rfl ?_
            refine s_getF ok rfl rfl rfl rfl ?_
            refine s_ldI3 ok rfl ?_
            refine s_iald ok rfl (by exact rfl) (by exact rfl) (by omega) (by omega) ?_
            refine s_ci ok rfl ?_
            refine s_c_eq ok rfl (hk.1 e) ⟨by omega, by omega⟩ (fun c54 => ?_) (fun c54 => ?_)
            · refine s_ldA0 ok rfl ?_
              refine s_getF ok rfl rfl rfl rfl ?_
              refine s_ldI1 ok rfl ?_
              refine s_iald ok rfl (by exact rfl) (by exact rfl) (by omega) (by omega) ?_
              refine s_ldA0 ok rfl ?_
              refine s_getF ok rfl rfl rfl rfl ?_
              refine s_ldI3 ok rfl ?_
              refine s_iald ok rfl (by exact rfl) (by exact rfl) (by omega) (by omega) ?_
              refine s_c_eq ok rfl (hk.2.1 t) (hk.2.1 e) (fun c69 => ?_) (fun c69 => ?_)
              · have yk : h 80 t = 2 ∧ h 80 e = 2 ∧ h 83 t = h 83 e := ⟨c44, c54, c69⟩
                refine s_ldI5 ok rfl ?_
                refine s_if_lt ok rfl (by first | exact hb _ _ | exact ⟨by omega, by omega⟩) (fun c77 => ?_) (fun c77 => ?_)
                · refine s_ci ok rfl ?_
                  refine s_retI ok rfl ⟨congrArg (fun z => some (Value.int (iI z))) ((if_pos yy).trans ((if_neg (by omega)).trans ((if_neg (fun q => q yk)).trans (if_pos (by omega))))).symm, congrArg (fun z => zJ (k, z, r, l, n)) (if_neg (fun q => q.2.2 (by omega))).symm⟩
                · refine s_ldI2 ok rfl ?_
                  refine s_if_lt ok rfl (by first | exact hb _ _ | exact ⟨by omega, by omega⟩) (fun c81 => ?_) (fun c81 => ?_)
                  · refine s_ci ok rfl ?_
                    refine s_retI ok rfl ⟨congrArg (fun z => some (Value.int (iI z))) ((if_pos yy).trans ((if_neg (by omega)).trans ((if_neg (fun q => q yk)).trans (if_pos (by omega))))).symm, congrArg (fun z => zJ (k, z, r, l, n)) (if_neg (fun q => q.2.2 (by omega))).symm⟩
                  · refine s_ldI4 ok rfl ?_
                    refine s_if_lt ok rfl (by first | exact hb _ _ | exact ⟨by omega, by omega⟩) (fun c86 => ?_) (fun c86 => ?_)
                    · refine s_ci ok rfl ?_
                      refine s_retI ok rfl ⟨congrArg (fun z => some (Value.int (iI z))) ((if_pos yy).trans ((if_neg (by omega)).trans ((if_neg (fun q => q yk)).trans (if_pos (by omega))))).symm, congrArg (fun z => zJ (k, z, r, l, n)) (if_neg (fun q => q.2.2 (by omega))).symm⟩
                    · refine s_ldI5 ok rfl ?_
                      refine s_ldA0 ok rfl ?_
                      refine s_getF ok rfl rfl rfl rfl ?_
                      refine s_ldI1 ok rfl ?_
                      refine s_iald ok rfl (by exact rfl) (by exact rfl) (by omega) (by omega) ?_
                      refine s_ldI2 ok rfl ?_
                      refine s_sub ok rfl ?_
                      refine s_c_gt ok rfl (by first | exact hb _ _ | exact ⟨by omega, by omega⟩) (by first | exact hb _ _ | exact ⟨by omega, by omega⟩) (fun c99 => ?_) (fun c99 => ?_)
                      · refine s_ci ok rfl ?_
                        refine s_retI ok rfl ⟨congrArg (fun z => some (Value.int (iI z))) ((if_pos yy).trans ((if_neg (by omega)).trans ((if_neg (fun q => q yk)).trans (if_pos (by omega))))).symm, congrArg (fun z => zJ (k, z, r, l, n)) (if_neg (fun q => q.2.2 (by omega))).symm⟩
                      · refine s_ldI5 ok rfl ?_
                        refine s_ldA0 ok rfl ?_
                        refine s_getF ok rfl rfl rfl rfl ?_
                        refine s_ldI3 ok rfl ?_
                        refine s_iald ok rfl (by exact rfl) (by exact rfl) (by omega) (by omega) ?_
                        refine s_ldI4 ok rfl ?_
                        refine s_sub ok rfl ?_
                        refine s_c_le ok rfl (by first | exact hb _ _ | exact ⟨by omega, by omega⟩) (by first | exact hb _ _ | exact ⟨by omega, by omega⟩) (fun c113 => ?_) (fun c113 => ?_)
                        · refine s_ci ok rfl ?_
                          refine s_stI6 ok rfl rfl ?_
                          have yn : ¬ (m9 < 0 ∨ a < 0 ∨ b < 0 ∨ h 84 t - a < m9 ∨ h 84 e - b < m9) := by omega
                          have hq : zV (.int (iI (if (0 ≤ t ∧ t < 8) ∧ (0 ≤ e ∧ e < 8) then (if h 80 t = 0 ∨ h 80 e = 0 then -11 else if ¬ (h 80 t = 2 ∧ h 80 e = 2 ∧ h 83 t = h 83 e) then -12 else if (m9 < 0 ∨ a < 0 ∨ b < 0 ∨ h 84 t - a < m9 ∨ h 84 e - b < m9) then -13 else m9) else -1))) (zJ (k, (if ((0 ≤ t ∧ t < 8) ∧ (0 ≤ e ∧ e < 8)) ∧ (h 80 t = 2 ∧ h 80 e = 2 ∧ h 83 t = h 83 e) ∧ ¬ (m9 < 0 ∨ a < 0 ∨ b < 0 ∨ h 84 t - a < m9 ∨ h 84 e - b < m9) then sCr h (100 * t + a) (100 * e + b) (100 * e + b) ((100 * e + b) + m9) else h), r, l, n)) (some (.int (iI m9))) (zJ (k, sCr h (100 * t + a) (100 * e + b) (100 * e + b) ((100 * e + b) + m9), r, l, n)) := ⟨congrArg (fun z => some (Value.int (iI z))) ((if_pos yy).trans ((if_neg (by omega)).trans ((if_neg (fun q => q yk)).trans (if_neg yn)))).symm, congrArg (fun z => zJ (k, z, r, l, n)) (if_pos ⟨yy, yk, yn⟩).symm⟩
                          by_cases hab : b < a
                          · refine zgo_eq ?_ (lp_copyU (E := E) (d := d) (k := k) (r := r) (l := l) (n := n) (h := h) yy.1.1 yy.1.2 yy.2.1 yy.2.2 (by omega) (by omega) (by omega) (by omega) (by omega) hab hq (m9 + 1).toNat 0 none rfl (by omega) (by omega))
                            rw [show (100 * e + b) + ((0 : Nat) : Int) = (100 * e + b) by omega, sCr_0 (by omega)]
                            try rfl
                          · refine zgo_eq ?_ (lp_copyD (E := E) (d := d) (k := k) (r := r) (l := l) (n := n) (h := h) yy.1.1 yy.1.2 yy.2.1 yy.2.2 (by omega) (by omega) (by omega) (by omega) (by omega) (by omega) hq (m9 + 1).toNat 0 none rfl (by omega) (by omega))
                            rw [show (100 * e + b) + m9 - ((0 : Nat) : Int) = (100 * e + b) + m9 by omega, sCr_0 (by omega)]
                            try rfl
                        · refine s_ci ok rfl ?_
                          refine s_retI ok rfl ⟨congrArg (fun z => some (Value.int (iI z))) ((if_pos yy).trans ((if_neg (by omega)).trans ((if_neg (fun q => q yk)).trans (if_pos (by omega))))).symm, congrArg (fun z => zJ (k, z, r, l, n)) (if_neg (fun q => q.2.2 (by omega))).symm⟩
              · refine s_ci ok rfl ?_
                refine s_retI ok rfl ⟨congrArg (fun z => some (Value.int (iI z))) ((if_pos yy).trans ((if_neg (by omega)).trans (if_pos (by omega)))).symm, congrArg (fun z => zJ (k, z, r, l, n)) (if_neg (fun q => by omega)).symm⟩
            · refine s_ci ok rfl ?_
              refine s_retI ok rfl ⟨congrArg (fun z => some (Value.int (iI z))) ((if_pos yy).trans ((if_neg (by omega)).trans (if_pos (by omega)))).symm, congrArg (fun z => zJ (k, z, r, l, n)) (if_neg (fun q => by omega)).symm⟩
          · refine s_ci ok rfl ?_
            refine s_retI ok rfl ⟨congrArg (fun z => some (Value.int (iI z))) ((if_pos yy).trans ((if_neg (by omega)).trans (if_pos (by omega)))).symm, congrArg (fun z => zJ (k, z, r, l, n)) (if_neg (fun q => by omega)).symm⟩
/-- the price of a kind; what toss catches -/
def kCo (a f : Int) : Int := if a = 1 then 8 else if a = 2 then 5 + f else if a = 3 then 2 * (5 + kEx 3 f) else if a = 4 then 0 else if a = 5 then 6 else if a = 6 then 9 + kEx 6 f else if a = 7 then 10 else 5
def kTo (a f : Int) : Int := if a = 4 ∨ f = 0 then -15 else if a = 6 then 200 + kCo a f else if a = 2 ∨ a = 3 then 100 + f else f
theorem ct_costBy {E : zE} {d : Nat} {k : Nat → Nat × Nat} {h : Nat → Int → Int} {r : Nat → Int → Option Nat} {l : Nat → Nat → Int64} {n : Nat} {a f : Int} (a0 : 0 ≤ a) (a1 : a ≤ 7) (f0 : 0 ≤ f) (f1 : f ≤ 9) : zCT E (d + 2) M_X12_costBy [.int (iI (a)), .int (iI (f))] (zJ (k, h, r, l, n)) 0 0 (zV (.int (iI (kCo a f))) (zJ (k, h, r, l, n))) := by
  have ok := ok_X12_costBy
  refine zCT_of pn_X12_costBy (Nat.le_of_ble_eq_true rfl) ?_
  show zGo _ _ _ _ _ _ 0 ([some (.int (iI (a))), some (.int (iI (f)))], [], _, _, _)
  refine s_ldI0 ok rfl ?_
  refine s_sw ok rfl ?_
  refine zsw_c (by first | exact hb _ _ | exact ⟨by omega, by omega⟩) (by first | exact hb _ _ | exact ⟨by omega, by omega⟩) (fun c1 => ?_) (fun c1_1 => ?_)
  · refine s_ci ok rfl ?_
    refine s_retI ok rfl ⟨congrArg (fun z => some (Value.int (iI z))) (by unfold kCo; (repeat (first | rw [if_pos (by omega)] | rw [if_neg (by omega)])); first | rfl | done), rfl⟩
  refine zsw_c (by first | exact hb _ _ | exact ⟨by omega, by omega⟩) (by first | exact hb _ _ | exact ⟨by omega, by omega⟩) (fun c1 => ?_) (fun c1_2 => ?_)
  · refine s_ci ok rfl ?_
    refine s_ldI1 ok rfl ?_
    refine s_add ok rfl ?_
    refine s_retI ok rfl ⟨congrArg (fun z => some (Value.int (iI z))) (by unfold kCo; (repeat (first | rw [if_pos (by omega)] | rw [if_neg (by omega)])); first | rfl | done), rfl⟩
  refine zsw_c (by first | exact hb _ _ | exact ⟨by omega, by omega⟩) (by first | exact hb _ _ | exact ⟨by omega, by omega⟩) (fun c1 => ?_) (fun c1_3 => ?_)
  · refine s_ci ok rfl ?_
    refine s_ci ok rfl ?_
    refine s_ci ok rfl ?_
    refine s_ldI1 ok rfl ?_
    refine s_callS ok rfl rfl rfl rfl (ct_excuseBy (by omega) (by omega) f0 f1) ?_
    refine s_add ok rfl ?_
    refine s_mul ok rfl ?_
    refine s_retI ok rfl ⟨congrArg (fun z => some (Value.int (iI z))) (by unfold kCo; (repeat (first | rw [if_pos (by omega)] | rw [if_neg (by omega)])); first | rfl | done), rfl⟩
  refine zsw_c (by first | exact hb _ _ | exact ⟨by omega, by omega⟩) (by first | exact hb _ _ | exact ⟨by omega, by omega⟩) (fun c1 => ?_) (fun c1_4 => ?_)
  · refine s_ci ok rfl ?_
    refine s_retI ok rfl ⟨congrArg (fun z => some (Value.int (iI z))) (by unfold kCo; (repeat (first | rw [if_pos (by omega)] | rw [if_neg (by omega)])); first | rfl | done), rfl⟩
  refine zsw_c (by first | exact hb _ _ | exact ⟨by omega, by omega⟩) (by first | exact hb _ _ | exact ⟨by omega, by omega⟩) (fun c1 => ?_) (fun c1_5 => ?_)
  · refine s_ci ok rfl ?_
    refine s_retI ok rfl ⟨congrArg (fun z => some (Value.int (iI z))) (by unfold kCo; (repeat (first | rw [if_pos (by omega)] | rw [if_neg (by omega)])); first | rfl | done), rfl⟩
  refine zsw_c (by first | exact hb _ _ | exact ⟨by omega, by omega⟩) (by first | exact hb _ _ | exact ⟨by omega, by omega⟩) (fun c1 => ?_) (fun c1_6 => ?_)
  · refine s_ci ok rfl ?_
    refine s_ci ok rfl ?_
    refine s_ldI1 ok rfl ?_
    refine s_callS ok rfl rfl rfl rfl (ct_excuseBy (by omega) (by omega) f0 f1) ?_
    refine s_add ok rfl ?_
    refine s_retI ok rfl ⟨congrArg (fun z => some (Value.int (iI z))) (by unfold kCo; (repeat (first | rw [if_pos (by omega)] | rw [if_neg (by omega)])); first | rfl | done), rfl⟩
  refine zsw_c (by first | exact hb _ _ | exact ⟨by omega, by omega⟩) (by first | exact hb _ _ | exact ⟨by omega, by omega⟩) (fun c1 => ?_) (fun c1_7 => ?_)
  · refine s_ci ok rfl ?_
    refine s_retI ok rfl ⟨congrArg (fun z => some (Value.int (iI z))) (by unfold kCo; (repeat (first | rw [if_pos (by omega)] | rw [if_neg (by omega)])); first | rfl | done), rfl⟩
  show zGo _ _ _ _ _ _ 79 _
  refine s_ci ok rfl ?_
  refine s_retI ok rfl ⟨congrArg (fun z => some (Value.int (iI z))) (by unfold kCo; (repeat (first | rw [if_pos (by omega)] | rw [if_neg (by omega)])); first | rfl | done), rfl⟩
theorem ct_cost {E : zE} {d : Nat} {k : Nat → Nat × Nat} {h : Nat → Int → Int} {r : Nat → Int → Option Nat} {l : Nat → Nat → Int64} {n : Nat} (hk : dKp h) {t : Int} (zt : zb t) (hw : sWK h t = 0 → (0 ≤ h 81 t ∧ h 81 t ≤ 7) ∧ (0 ≤ h 82 t ∧ h 82 t ≤ 9)) : zCT E (d + 3) M_X12_cost [.ref 59, .int (iI (t))] (zJ (k, h, r, l, n)) 0 0 (zV (.int (iI (if sWK h t = 0 then kCo (h 81 t) (h 82 t) else sWK h t))) (zJ (k, h, r, l, n))) := by
  have ok := ok_X12_cost
  refine zCT_of pn_X12_cost (Nat.le_of_ble_eq_true rfl) ?_
  show zGo _ _ _ _ _ _ 0 ([some (.ref 59), some (.int (iI (t))), none], [], _, _, _)
  have wk := sWK_in (h := h) (t := t)
  have w8 : sWK h t = 0 → 0 ≤ t ∧ t < 8 := fun e => by unfold sWK at e; split at e <;> omega
  refine s_ldA0 ok rfl ?_
  refine s_ldI1 ok rfl ?_
  refine s_callV ok rfl rfl rfl rfl rfl rfl (ct_wrongKept zt hk.1) ?_
  refine s_stI2 ok rfl rfl ?_
  refine s_ldI2 ok rfl ?_
  refine s_if_eq ok rfl (by first | exact hb _ _ | exact ⟨by omega, by omega⟩) (fun c7 => ?_) (fun c7 => ?_)
  · obtain ⟨x0, x1⟩ := w8 c7
    obtain ⟨⟨q1, q2⟩, ⟨q3, q4⟩⟩ := hw c7
    refine s_ldA0 ok rfl ?_
    refine s_getF ok rfl rfl rfl rfl ?_
    refine s_ldI1 ok rfl ?_
    refine s_iald ok rfl (by exact rfl) (by exact rfl) (by omega) (by omega) ?_
    refine s_ldA0 ok rfl ?_
    refine s_getF ok rfl rfl rfl rfl ?_
    refine s_ldI1 ok rfl ?_
    refine s_iald ok rfl (by exact rfl) (by exact rfl) (by omega) (by omega) ?_
    refine s_callS ok rfl rfl rfl rfl (ct_costBy q1 q2 q3 q4) ?_
    refine s_retI ok rfl ⟨congrArg (fun z => some (Value.int (iI z))) (by first | exact (if_pos c7).symm | exact (if_neg c7).symm), rfl⟩
  · refine s_ldI2 ok rfl ?_
    refine s_goto ok rfl ?_
    refine s_retI ok rfl ⟨congrArg (fun z => some (Value.int (iI z))) (by first | exact (if_pos c7).symm | exact (if_neg c7).symm), rfl⟩
theorem ct_toss {E : zE} {d : Nat} {k : Nat → Nat × Nat} {h : Nat → Int → Int} {r : Nat → Int → Option Nat} {l : Nat → Nat → Int64} {n : Nat} (hk : dKp h) {t : Int} (zt : zb t) (hw : sWK h t = 0 → (0 ≤ h 81 t ∧ h 81 t ≤ 7) ∧ (0 ≤ h 82 t ∧ h 82 t ≤ 9)) : zCT E (d + 3) M_X12_toss [.ref 59, .int (iI (t))] (zJ (k, h, r, l, n)) 0 0 (zV (.int (iI (if sWK h t = 0 then kTo (h 81 t) (h 82 t) else sWK h t))) (zJ (k, h, r, l, n))) := by
  have ok := ok_X12_toss
  refine zCT_of pn_X12_toss (Nat.le_of_ble_eq_true rfl) ?_
  show zGo _ _ _ _ _ _ 0 ([some (.ref 59), some (.int (iI (t))), none, none, none], [], _, _, _)
  have wk := sWK_in (h := h) (t := t)
  have w8 : sWK h t = 0 → 0 ≤ t ∧ t < 8 := fun e => by unfold sWK at e; split at e <;> omega
  refine s_ldA0 ok rfl ?_
  refine s_ldI1 ok rfl ?_
  refine s_callV ok rfl rfl rfl rfl rfl rfl (ct_wrongKept zt hk.1) ?_
  refine s_stI2 ok rfl rfl ?_
  refine s_ldI2 ok rfl ?_
  refine s_if_eq ok rfl (by first | exact hb _ _ | exact ⟨by omega, by omega⟩) (fun c7 => ?_) (fun c7 => ?_)
  · obtain ⟨x0, x1⟩ := w8 c7
    obtain ⟨⟨q1, q2⟩, ⟨q3, q4⟩⟩ := hw c7
    refine s_ldA0 ok rfl ?_
    refine s_getF ok rfl rfl rfl rfl ?_
    refine s_ldI1 ok rfl ?_
    refine s_iald ok rfl (by exact rfl) (by exact rfl) (by omega) (by omega) ?_
    refine s_stI3 ok rfl rfl ?_
    refine s_ldA0 ok rfl ?_
    refine s_getF ok rfl rfl rfl rfl ?_
    refine s_ldI1 ok rfl ?_
    refine s_iald ok rfl (by exact rfl) (by exact rfl) (by omega) (by omega) ?_
    refine s_stI4 ok rfl rfl ?_
    refine s_ldI3 ok rfl ?_
    refine s_ci ok rfl ?_
    refine s_c_eq ok rfl (by first | exact hb _ _ | exact ⟨by omega, by omega⟩) (by first | exact hb _ _ | exact ⟨by omega, by omega⟩) (fun c29 => ?_) (fun c29 => ?_)
    · refine s_ci ok rfl ?_
      refine s_retI ok rfl ⟨congrArg (fun z => some (Value.int (iI z))) (by first | exact (if_neg c7).symm | (rw [if_pos c7]; unfold kTo; (repeat (first | rw [if_pos (by omega)] | rw [if_neg (by omega)])); first | rfl | done)), rfl⟩
    · refine s_ldI4 ok rfl ?_
      refine s_if_eq ok rfl (by first | exact hb _ _ | exact ⟨by omega, by omega⟩) (fun c34 => ?_) (fun c34 => ?_)
      · refine s_ci ok rfl ?_
        refine s_retI ok rfl ⟨congrArg (fun z => some (Value.int (iI z))) (by first | exact (if_neg c7).symm | (rw [if_pos c7]; unfold kTo; (repeat (first | rw [if_pos (by omega)] | rw [if_neg (by omega)])); first | rfl | done)), rfl⟩
      · refine s_ldI3 ok rfl ?_
        refine s_ci ok rfl ?_
        refine s_c_eq ok rfl (by first | exact hb _ _ | exact ⟨by omega, by omega⟩) (by first | exact hb _ _ | exact ⟨by omega, by omega⟩) (fun c43 => ?_) (fun c43 => ?_)
        · refine s_ci ok rfl ?_
          refine s_ldI3 ok rfl ?_
          refine s_ldI4 ok rfl ?_
          refine s_callS ok rfl rfl rfl rfl (ct_costBy q1 q2 q3 q4) ?_
          refine s_add ok rfl ?_
          refine s_goto ok rfl ?_
          refine s_retI ok rfl ⟨congrArg (fun z => some (Value.int (iI z))) (by first | exact (if_neg c7).symm | (rw [if_pos c7]; unfold kTo; (repeat (first | rw [if_pos (by omega)] | rw [if_neg (by omega)])); first | rfl | done)), rfl⟩
        · refine s_ldI3 ok rfl ?_
          refine s_ci ok rfl ?_
          refine s_c_eq ok rfl (by first | exact hb _ _ | exact ⟨by omega, by omega⟩) (by first | exact hb _ _ | exact ⟨by omega, by omega⟩) (fun c61 => ?_) (fun c61 => ?_)
          · refine s_ci ok rfl ?_
            refine s_ldI4 ok rfl ?_
            refine s_add ok rfl ?_
            refine s_goto ok rfl ?_
            refine s_retI ok rfl ⟨congrArg (fun z => some (Value.int (iI z))) (by first | exact (if_neg c7).symm | (rw [if_pos c7]; unfold kTo; (repeat (first | rw [if_pos (by omega)] | rw [if_neg (by omega)])); first | rfl | done)), rfl⟩
          · refine s_ldI3 ok rfl ?_
            refine s_ci ok rfl ?_
            refine s_c_eq ok rfl (by first | exact hb _ _ | exact ⟨by omega, by omega⟩) (by first | exact hb _ _ | exact ⟨by omega, by omega⟩) (fun c66 => ?_) (fun c66 => ?_)
            · refine s_ci ok rfl ?_
              refine s_ldI4 ok rfl ?_
              refine s_add ok rfl ?_
              refine s_goto ok rfl ?_
              refine s_retI ok rfl ⟨congrArg (fun z => some (Value.int (iI z))) (by first | exact (if_neg c7).symm | (rw [if_pos c7]; unfold kTo; (repeat (first | rw [if_pos (by omega)] | rw [if_neg (by omega)])); first | rfl | done)), rfl⟩
            · refine s_ldI4 ok rfl ?_
              refine s_retI ok rfl ⟨congrArg (fun z => some (Value.int (iI z))) (by first | exact (if_neg c7).symm | (rw [if_pos c7]; unfold kTo; (repeat (first | rw [if_pos (by omega)] | rw [if_neg (by omega)])); first | rfl | done)), rfl⟩
  · refine s_ldI2 ok rfl ?_
    refine s_retI ok rfl ⟨congrArg (fun z => some (Value.int (iI z))) (by first | exact (if_neg c7).symm | (rw [if_pos c7]; unfold kTo; (repeat (first | rw [if_pos (by omega)] | rw [if_neg (by omega)])); first | rfl | done)), rfl⟩
theorem ct_thrown {E : zE} {d : Nat} {k : Nat → Nat × Nat} {h : Nat → Int → Int} {r : Nat → Int → Option Nat} {l : Nat → Nat → Int64} {n : Nat}  : zCT E d M_X12_thrown [.ref 59] (zJ (k, h, r, l, n)) 0 0 (zV (.int (iI (h 59 36))) (zJ (k, h, r, l, n))) := by
  have ok := ok_X12_thrown
  refine zCT_of pn_X12_thrown (Nat.le_of_ble_eq_true rfl) ?_
  show zGo _ _ _ _ _ _ 0 ([some (.ref 59)], [], _, _, _)
  refine s_ldA0 ok rfl ?_
  refine s_getJ 36 ok rfl rfl rfl rfl ?_
  refine s_retI ok rfl ⟨rfl, rfl⟩
