/-! leaves, comes, extra -/
/-- the people behind t one place down, as far as the numbers below m of those from t's on -/
def sLv (p : Int → Int) (t m : Int) : Int → Int := fun j => if j = 6 then p 6 - 1 else if 19 + 5 * t ≤ j ∧ j < 19 + m then p (j + 5) else p j
theorem sLv_0 {h : Nat → Int → Int} {t : Int} (t0 : 0 ≤ t) : zar h 60 (sLv (h 60) t (5 * t)) = zv h 60 6 (h 60 6 - 1) := by
  rw [← zar_self (h := h) (n := 60), zar_zv]
  rw [zar_self]
  congr 1
  funext j
  unfold sLv
  by_cases e : j = 6
  · rw [if_pos e, if_pos e]
  · rw [if_neg e, if_neg e, if_neg (by omega)]
theorem sLv_s {h : Nat → Int → Int} {t m : Int} (t0 : 0 ≤ t) (m0 : 5 * t ≤ m) : zv (zar h 60 (sLv (h 60) t m)) 60 (19 + m) (sLv (h 60) t m (19 + m + 5)) = zar h 60 (sLv (h 60) t (m + 1)) := by
  rw [zar_zv]
  congr 1
  funext j
  unfold sLv
  by_cases e : j = 19 + m
  · rw [e, if_pos rfl, if_neg (by omega), if_neg (by omega), if_neg (by omega), if_pos (by omega)]
  · rw [if_neg e]
    by_cases e6 : j = 6
    · rw [if_pos e6, if_pos e6]
    · rw [if_neg e6, if_neg e6]
      by_cases q : 19 + 5 * t ≤ j ∧ j < 19 + m
      · rw [if_pos q, if_pos (by omega)]
      · rw [if_neg q, if_neg (by omega)]
theorem lp_leaves {E : zE} {d : Nat} {k : Nat → Nat × Nat} {h : Nat → Int → Int} {r : Nat → Int → Option Nat} {l : Nat → Nat → Int64} {n : Nat} {Q : zQ} {t : Int} (t0 : 0 ≤ t) (t1 : t < h 60 6) (p6 : h 60 6 ≤ 8) (hQ : Q (some (.int (iI (h 60 6 - 1)))) (zJ (k, zar h 60 (sLv (h 60) t (5 * (h 60 6 - 1))), r, l, n))) : ∀ c : Nat, ∀ m : Nat, 5 * (h 60 6 - 1) < m + c → 5 * t ≤ m → m ≤ 5 * (h 60 6 - 1) → zGo E (d + 2) M_X12_leaves 0 0 Q 25 ([some (.ref 59), some (.int (iI (t))), some (.int (iI ((m : Int))))], [], zJ (k, zar h 60 (sLv (h 60) t (m : Int)), r, l, n), 0, 0) := by
  have ok := ok_X12_leaves
  intro c
  induction c with
  | zero =>
    intros
    omega
  | succ c ih =>
    intro m g1 g2 g3
    have e6 : zar h 60 (sLv (h 60) t (m : Int)) 60 6 = h 60 6 - 1 := (congrFun zar_at 6).trans (if_pos rfl)
    have es := sLv_s (h := h) (t := t) (m := (m : Int)) t0 g2
    have ea : zar h 60 (sLv (h 60) t (m : Int)) 60 (19 + (m : Int) + 5) = (sLv (h 60) t (m : Int)) (19 + (m : Int) + 5) := congrFun zar_at _
    refine s_ldI2 ok rfl ?_
    refine s_ci ok rfl ?_
    refine s_ldA0 ok rfl ?_
    refine s_getF ok rfl rfl rfl rfl ?_
    refine s_ci ok rfl ?_
    refine s_iald ok rfl (by exact rfl) (by exact rfl) (by omega) (by omega) ?_
    rw [e6]
    refine s_mul ok rfl ?_
    refine s_c_ge ok rfl ⟨by omega, by omega⟩ ⟨by omega, by omega⟩ (fun c35 => ?_) (fun c35 => ?_)
    · refine s_ldA0 ok rfl ?_
      refine s_getF ok rfl rfl rfl rfl ?_
      refine s_ci ok rfl ?_
      refine s_iald ok rfl (by exact rfl) (by exact rfl) (by omega) (by omega) ?_
      rw [e6]
      refine s_retI ok rfl (by rw [show (m : Int) = 5 * (h 60 6 - 1) by omega]; exact hQ)
    · refine s_ldA0 ok rfl ?_
      refine s_getF ok rfl rfl rfl rfl ?_
      refine s_ci ok rfl ?_
      refine s_ldI2 ok rfl ?_
      refine s_add ok rfl ?_
      refine s_ldA0 ok rfl ?_
      refine s_getF ok rfl rfl rfl rfl ?_
      refine s_ci ok rfl ?_
      refine s_ldI2 ok rfl ?_
      refine s_add ok rfl ?_
      refine s_ci ok rfl ?_
      refine s_add ok rfl ?_
      refine s_iald ok rfl (by exact rfl) (by exact rfl) (by omega) (by omega) ?_
      rw [ea]
      refine s_iast ok rfl (by exact rfl) (by exact rfl) (by omega) (by omega) (fun q => by cases q) ?_
      rw [es]
      refine s_inc2 ok rfl rfl ?_
      refine s_goto ok rfl ?_
      exact ih (m + 1) (by omega) (by omega) (by omega)
theorem ct_leaves {E : zE} {d : Nat} {k : Nat → Nat × Nat} {h : Nat → Int → Int} {r : Nat → Int → Option Nat} {l : Nat → Nat → Int64} {n : Nat} (hp : pOK (h 60)) {t : Int} (zt : zb t) : zCT E (d + 2) M_X12_leaves [.ref 59, .int (iI (t))] (zJ (k, h, r, l, n)) 0 0 (zV (.int (iI (if 0 ≤ t ∧ t < h 60 6 then h 60 6 - 1 else -1))) (zJ (k, (if 0 ≤ t ∧ t < h 60 6 then zar h 60 (sLv (h 60) t (5 * (h 60 6 - 1))) else h), r, l, n))) := by
  have ok := ok_X12_leaves
  refine zCT_of pn_X12_leaves (Nat.le_of_ble_eq_true rfl) ?_
  show zGo _ _ _ _ _ _ 0 ([some (.ref 59), some (.int (iI (t))), none], [], _, _, _)
  refine s_ldA0 ok rfl ?_
  refine s_ldI1 ok rfl ?_
  refine s_callV ok rfl rfl rfl rfl rfl rfl (ct_isTraveller hp zt) ?_
  refine s_if_eq ok rfl zif01 (fun c5 => ?_) (fun c5 => ?_)
  · refine s_ci ok rfl ?_
    refine s_retI ok rfl ⟨congrArg (fun z => some (Value.int (iI z))) (if_neg (fun q => zif_f c5 q)).symm, congrArg (fun z => zJ (k, z, r, l, n)) (if_neg (fun q => zif_f c5 q)).symm⟩
  · have yt := zif_t c5
    have p6 := hp.2.2.2.2.2.2.2.2.2.2.2.2.2.1
    refine s_ldA0 ok rfl ?_
    refine s_getF ok rfl rfl rfl rfl ?_
    refine s_ci ok rfl ?_
    refine s_dup2 ok rfl ?_
    refine s_iald ok rfl (by exact rfl) (by exact rfl) (by omega) (by omega) ?_
    refine s_ci ok rfl ?_
    refine s_sub ok rfl ?_
    refine s_iast ok rfl (by exact rfl) (by exact rfl) (by omega) (by omega) (fun q => by cases q) ?_
    refine s_ci ok rfl ?_
    refine s_ldI1 ok rfl ?_
    refine s_mul ok rfl ?_
    refine s_stI2 ok rfl rfl ?_
    have hh := lp_leaves (E := E) (d := d) (k := k) (r := r) (l := l) (n := n) (h := h) yt.1 yt.2 p6 (Q := zV (.int (iI (if 0 ≤ t ∧ t < h 60 6 then h 60 6 - 1 else -1))) (zJ (k, (if 0 ≤ t ∧ t < h 60 6 then zar h 60 (sLv (h 60) t (5 * (h 60 6 - 1))) else h), r, l, n))) ⟨congrArg (fun z => some (Value.int (iI z))) (if_pos yt).symm, congrArg (fun z => zJ (k, z, r, l, n)) (if_pos yt).symm⟩ (5 * (h 60 6 - 1) + 1).toNat (5 * t).toNat (by omega) (by omega) (by omega)
    rw [show (((5 * t).toNat : Nat) : Int) = 5 * t by omega, sLv_0 yt.1] at hh
    exact hh
/-- one person more: kind, figure, from, to, base -/
def sCs (h : Nat → Int → Int) (a b c e f : Int) : Nat → Int → Int := zv (zv (zv (zv (zv (zv h 60 (19 + 5 * h 60 6) a) 60 (19 + 5 * h 60 6 + 1) b) 60 (19 + 5 * h 60 6 + 2) c) 60 (19 + 5 * h 60 6 + 3) e) 60 (19 + 5 * h 60 6 + 4) f) 60 6 (h 60 6 + 1)
theorem sWK_in {h : Nat → Int → Int} {t : Int} : -12 ≤ sWK h t ∧ sWK h t ≤ 0 := by
  unfold sWK
  (repeat' split) <;> omega
theorem ct_comes {E : zE} {d : Nat} {k : Nat → Nat × Nat} {h : Nat → Int → Int} {r : Nat → Int → Option Nat} {l : Nat → Nat → Int64} {n : Nat} (p6a : 0 ≤ h 60 6) (p6 : h 60 6 ≤ 8) {t a b c : Int} (zt : zb t) (za : zb a) (z2 : zb b) (z3 : zb c) (z80 : ∀ j, zb (h 80 j)) : zCT E (d + 3) M_X12_comes [.ref 59, .int (iI (t)), .int (iI (a)), .int (iI (b)), .int (iI (c))] (zJ (k, h, r, l, n)) 0 0 (zV (.int (iI (if (0 ≤ t ∧ t < 8) ∧ (0 ≤ a ∧ a ≤ 4) ∧ (0 ≤ b ∧ b ≤ 4) ∧ (0 ≤ c ∧ c ≤ 300) then (if sWK h t = 0 then (if b ≤ a then -3 else if h 60 6 = 8 then -2 else h 60 6) else sWK h t) else -1))) (zJ (k, (if ((0 ≤ t ∧ t < 8) ∧ (0 ≤ a ∧ a ≤ 4) ∧ (0 ≤ b ∧ b ≤ 4) ∧ (0 ≤ c ∧ c ≤ 300)) ∧ sWK h t = 0 ∧ a < b ∧ ¬ h 60 6 = 8 then sCs h (h 81 t) (h 82 t) a b c else h), r, l, n))) := by
  have ok := ok_X12_comes
  refine zCT_of pn_X12_comes (Nat.le_of_ble_eq_true rfl) ?_
  show zGo _ _ _ _ _ _ 0 ([some (.ref 59), some (.int (iI (t))), some (.int (iI (a))), some (.int (iI (b))), some (.int (iI (c))), none, none], [], _, _, _)
  refine s_ldI1 ok rfl ?_
  refine s_callS ok rfl rfl rfl rfl (ct_isShelf zt) ?_
  refine s_if_eq ok rfl zif01 (fun c4 => ?_) (fun c4 => ?_)
  · refine s_ci ok rfl ?_
    refine s_retI ok rfl ⟨congrArg (fun z => some (Value.int (iI z))) (if_neg (fun q => by first | exact zif_f c34 q.2.2.2 | exact zif_f c22 q.2.2.1 | exact zif_f c13 q.2.1 | exact zif_f c4 q.1)).symm, congrArg (fun z => zJ (k, z, r, l, n)) (if_neg (fun q => by first | exact zif_f c34 q.1.2.2.2 | exact zif_f c22 q.1.2.2.1 | exact zif_f c13 q.1.2.1 | exact zif_f c4 q.1.1)).symm⟩
  · refine s_ldI2 ok rfl ?_
    refine s_ci ok rfl ?_
    refine s_ci ok rfl ?_
    refine s_callS ok rfl rfl rfl rfl (ct_isIn za ⟨by omega, by omega⟩ ⟨by omega, by omega⟩) ?_
    refine s_if_eq ok rfl zif01 (fun c13 => ?_) (fun c13 => ?_)
    · refine s_ci ok rfl ?_
      refine s_retI ok rfl ⟨congrArg (fun z => some (Value.int (iI z))) (if_neg (fun q => by first | exact zif_f c34 q.2.2.2 | exact zif_f c22 q.2.2.1 | exact zif_f c13 q.2.1 | exact zif_f c4 q.1)).symm, congrArg (fun z => zJ (k, z, r, l, n)) (if_neg (fun q => by first | exact zif_f c34 q.1.2.2.2 | exact zif_f c22 q.1.2.2.1 | exact zif_f c13 q.1.2.1 | exact zif_f c4 q.1.1)).symm⟩
    · refine s_ldI3 ok rfl ?_
      refine s_ci ok rfl ?_
      refine s_ci ok rfl ?_
      refine s_callS ok rfl rfl rfl rfl (ct_isIn z2 ⟨by omega, by omega⟩ ⟨by omega, by omega⟩) ?_
      refine s_if_eq ok rfl zif01 (fun c22 => ?_) (fun c22 => ?_)
      · refine s_ci ok rfl ?_
        refine s_retI ok rfl ⟨congrArg (fun z => some (Value.int (iI z))) (if_neg (fun q => by first | exact zif_f c34 q.2.2.2 | exact zif_f c22 q.2.2.1 | exact zif_f c13 q.2.1 | exact zif_f c4 q.1)).symm, congrArg (fun z => zJ (k, z, r, l, n)) (if_neg (fun q => by first | exact zif_f c34 q.1.2.2.2 | exact zif_f c22 q.1.2.2.1 | exact zif_f c13 q.1.2.1 | exact zif_f c4 q.1.1)).symm⟩
      · refine s_ldI4 ok rfl ?_
        refine s_ci ok rfl ?_
        refine s_ci ok rfl ?_
        refine s_callS ok rfl rfl rfl rfl (ct_isIn z3 ⟨by omega, by omega⟩ ⟨by omega, by omega⟩) ?_
        refine s_if_eq ok rfl zif01 (fun c34 => ?_) (fun c34 => ?_)
        · refine s_ci ok rfl ?_
          refine s_retI ok rfl ⟨congrArg (fun z => some (Value.int (iI z))) (if_neg (fun q => by first | exact zif_f c34 q.2.2.2 | exact zif_f c22 q.2.2.1 | exact zif_f c13 q.2.1 | exact zif_f c4 q.1)).symm, congrArg (fun z => zJ (k, z, r, l, n)) (if_neg (fun q => by first | exact zif_f c34 q.1.2.2.2 | exact zif_f c22 q.1.2.2.1 | exact zif_f c13 q.1.2.1 | exact zif_f c4 q.1.1)).symm⟩
        · have yy : (0 ≤ t ∧ t < 8) ∧ (0 ≤ a ∧ a ≤ 4) ∧ (0 ≤ b ∧ b ≤ 4) ∧ (0 ≤ c ∧ c ≤ 300) := ⟨zif_t c4, zif_t c13, zif_t c22, zif_t c34⟩
          have wk := sWK_in (h := h) (t := t)
          refine s_ldA0 ok rfl ?_
          refine s_ldI1 ok rfl ?_
          refine s_callV ok rfl rfl rfl rfl rfl rfl (ct_wrongKept zt z80) ?_
          refine s_stI5 ok rfl rfl ?_
          refine s_ldI5 ok rfl ?_
          refine s_if_eq ok rfl ⟨by omega, by omega⟩ (fun c48 => ?_) (fun c48 => ?_)
          · refine s_ldI2 ok rfl ?_
            refine s_ldI3 ok rfl ?_
            refine s_c_lt ok rfl za z2 (fun c56 => ?_) (fun c56 => ?_)
            · refine s_ldA0 ok rfl ?_
              refine s_getF ok rfl rfl rfl rfl ?_
              refine s_ci ok rfl ?_
              refine s_iald ok rfl (by exact rfl) (by exact rfl) (by omega) (by omega) ?_
              refine s_ci ok rfl ?_
              refine s_c_eq ok rfl ⟨by omega, by omega⟩ ⟨by omega, by omega⟩ (fun c71 => ?_) (fun c71 => ?_)
              · refine s_ci ok rfl ?_
                refine s_retI ok rfl ⟨congrArg (fun z => some (Value.int (iI z))) ((if_pos yy).trans ((if_pos c48).trans ((if_neg (by omega)).trans (if_pos c71)))).symm, congrArg (fun z => zJ (k, z, r, l, n)) (if_neg (fun q => by omega)).symm⟩
              · refine s_ci ok rfl ?_
                refine s_ci ok rfl ?_
                refine s_ldA0 ok rfl ?_
                refine s_getF ok rfl rfl rfl rfl ?_
                refine s_ci ok rfl ?_
                refine s_iald ok rfl (by exact rfl) (by exact rfl) (by omega) (by omega) ?_
                refine s_mul ok rfl ?_
                refine s_add ok rfl ?_
                refine s_stI6 ok rfl rfl ?_
                refine s_ldA0 ok rfl ?_
                refine s_getF ok rfl rfl rfl rfl ?_
                refine s_ldI6 ok rfl ?_
                refine s_ldA0 ok rfl ?_
                refine s_getF ok rfl rfl rfl rfl ?_
                refine s_ldI1 ok rfl ?_
                refine s_iald ok rfl (by exact rfl) (by exact rfl) (by omega) (by omega) ?_
                refine s_iast ok rfl (by exact rfl) (by exact rfl) (by omega) (by omega) (fun q => by cases q) ?_
                refine s_ldA0 ok rfl ?_
                refine s_getF ok rfl rfl rfl rfl ?_
                refine s_ldI6 ok rfl ?_
                refine s_ci ok rfl ?_
                refine s_add ok rfl ?_
                refine s_ldA0 ok rfl ?_
                refine s_getF ok rfl rfl rfl rfl ?_
                refine s_ldI1 ok rfl ?_
                refine s_iald ok rfl (by exact rfl) (by exact rfl) (by omega) (by omega) ?_
                have e82 : (zv h 60 (19 + 5 * h 60 6) (h 81 t)) 82 t = h 82 t := congrFun (zv_other (by omega)) t
                rw [e82]
                refine s_iast ok rfl (by exact rfl) (by exact rfl) (by omega) (by omega) (fun q => by cases q) ?_
                refine s_ldA0 ok rfl ?_
                refine s_getF ok rfl rfl rfl rfl ?_
                refine s_ldI6 ok rfl ?_
                refine s_ci ok rfl ?_
                refine s_add ok rfl ?_
                refine s_ldI2 ok rfl ?_
                refine s_iast ok rfl (by exact rfl) (by exact rfl) (by omega) (by omega) (fun q => by cases q) ?_
                refine s_ldA0 ok rfl ?_
                refine s_getF ok rfl rfl rfl rfl ?_
                refine s_ldI6 ok rfl ?_
                refine s_ci ok rfl ?_
                refine s_add ok rfl ?_
                refine s_ldI3 ok rfl ?_
                refine s_iast ok rfl (by exact rfl) (by exact rfl) (by omega) (by omega) (fun q => by cases q) ?_
                refine s_ldA0 ok rfl ?_
                refine s_getF ok rfl rfl rfl rfl ?_
                refine s_ldI6 ok rfl ?_
                refine s_ci ok rfl ?_
                refine s_add ok rfl ?_
                refine s_ldI4 ok rfl ?_
                refine s_iast ok rfl (by exact rfl) (by exact rfl) (by omega) (by omega) (fun q => by cases q) ?_
                refine s_ldA0 ok rfl ?_
                refine s_getF ok rfl rfl rfl rfl ?_
                refine s_ci ok rfl ?_
                refine s_dup2 ok rfl ?_
                refine s_iald ok rfl (by exact rfl) (by exact rfl) (by omega) (by omega) ?_
                have e66 : (zv (zv (zv (zv (zv h 60 (19 + 5 * h 60 6) (h 81 t)) 60 (19 + 5 * h 60 6 + 1) (h 82 t)) 60 (19 + 5 * h 60 6 + 2) a) 60 (19 + 5 * h 60 6 + 3) b) 60 (19 + 5 * h 60 6 + 4) c) 60 6 = h 60 6 := by rw [zv_at (by omega), zv_at (by omega), zv_at (by omega), zv_at (by omega), zv_at (by omega)]
                rw [e66]
                refine s_ci ok rfl ?_
                refine s_add ok rfl ?_
                refine s_iast ok rfl (by exact rfl) (by exact rfl) (by omega) (by omega) (fun q => by cases q) ?_
                refine s_ldA0 ok rfl ?_
                refine s_getF ok rfl rfl rfl rfl ?_
                refine s_ci ok rfl ?_
                refine s_iald ok rfl (by exact rfl) (by exact rfl) (by omega) (by omega) ?_
                have e67 : sCs h (h 81 t) (h 82 t) a b c 60 6 = h 60 6 + 1 := zv_is
                refine s_ci ok rfl ?_
                refine s_sub ok rfl ?_
                refine s_retI ok rfl ⟨congrArg (fun z => some (Value.int (iI z))) (Eq.trans (by rw [zv_is]; omega) ((if_pos yy).trans ((if_pos c48).trans ((if_neg (by omega)).trans (if_neg c71)))).symm), congrArg (fun z => zJ (k, z, r, l, n)) (if_pos ⟨yy, c48, by omega, c71⟩).symm⟩
            · refine s_ci ok rfl ?_
              refine s_retI ok rfl ⟨congrArg (fun z => some (Value.int (iI z))) ((if_pos yy).trans ((if_pos c48).trans (if_pos c56))).symm, congrArg (fun z => zJ (k, z, r, l, n)) (if_neg (fun q => by omega)).symm⟩
          · refine s_ldI5 ok rfl ?_
            refine s_retI ok rfl ⟨congrArg (fun z => some (Value.int (iI z))) ((if_pos yy).trans (if_neg c48)).symm, congrArg (fun z => zJ (k, z, r, l, n)) (if_neg (fun q => c48 q.2.1)).symm⟩
/-- the plan with a train more, that starts at 0 with 9 seats -/
def pXt (p : Int → Int) : Int → Int := zp (zp (zp p (11 + 2 * p 0) 0) (11 + 2 * p 0 + 1) 9) 0 (p 0 + 1)
/-- what is left of it -/
def sXt (h : Nat → Int → Int) : Nat → Int → Int := if h 60 0 = 4 then h else zv (zv h 60 (11 + 2 * h 60 0) 0) 60 (11 + 2 * h 60 0 + 1) 9
theorem pXt_ok {p : Int → Int} (hp : pOK p) (h4 : ¬ p 0 = 4) : pOK (pXt p) := by
  have a0 := hp.1
  have a1 := hp.2.1
  have s1 : pOK (zp p (11 + 2 * p 0) 0) := pOK_put hp (by omega)
  have s2 : pOK (zp (zp p (11 + 2 * p 0) 0) (11 + 2 * p 0 + 1) 9) := pOK_put s1 (by omega)
  unfold pXt
  obtain ⟨-, -, r9⟩ := s2
  refine ⟨by rw [zp_at]; omega, by rw [zp_at]; omega, ?_⟩
  obtain ⟨b2, b3, b4, b5, b6, b7, b8, b9, c0, c1, c2, c3, d1, d2, d3⟩ := r9
  refine ⟨?_, ?_, ?_, ?_, ?_, ?_, ?_, ?_, ?_, ?_, ?_, ?_, fun j j0 j1 => ?_, fun j j0 j1 => ?_, fun s s0 s1 => ?_⟩
  iterate 12 (rw [zp_ne (i := 0) (by omega)]; assumption)
  · rw [zp_ne (i := 0) (by omega)]
    exact d1 j j0 j1
  · rw [zp_ne (i := 0) (by omega), zp_ne (i := 0) (by omega)]
    exact d2 j j0 j1
  · have := d3 s s0 s1
    unfold pK pF pFr pTo pBa at *
    rw [zp_ne (i := 0) (by omega), zp_ne (i := 0) (by omega), zp_ne (i := 0) (by omega), zp_ne (i := 0) (by omega), zp_ne (i := 0) (by omega)]
    exact this
theorem sAT_60 {h : Nat → Int → Int} : sAT h 0 9 60 = pXt (h 60) := rfl
theorem sAT_ne {h : Nat → Int → Int} {m : Nat} (hm : ¬ m = 60) : sAT h 0 9 m = h m := by
  unfold sAT
  rw [zv_other hm, zv_other hm, zv_other hm]
theorem dP_AT {h : Nat → Int → Int} (hd : dP h) (h4 : ¬ h 60 0 = 4) : dP (sAT h 0 9) := by
  refine ⟨pXt_ok hd.1 h4, ?_, ?_, ?_, ?_⟩
  · rw [sAT_ne (by omega)]; exact hd.2.1
  · rw [sAT_ne (by omega)]; exact hd.2.2.1
  · rw [sAT_ne (by omega)]; exact hd.2.2.2.1
  · rw [sAT_ne (by omega)]; exact hd.2.2.2.2
theorem sXt_back {h g : Nat → Int → Int} (hd : dP h) (h4 : ¬ h 60 0 = 4) (f : dE (sAT h 0 9) g) : dE (sXt h) (zv (zv g 60 0 (h 60 0)) 60 1 (h 60 1)) ∧ g 60 0 = h 60 0 + 1 := by
  have e60 : g 60 = pXt (h 60) := f.e60
  have a0 := hd.1.1
  have a1 := hd.1.2.1
  have k60 : zv (zv g 60 0 (h 60 0)) 60 1 (h 60 1) 60 = sXt h 60 := by
    funext j
    unfold sXt
    rw [if_neg h4]
    by_cases j1 : j = 1
    · rw [j1, zv_is, zv_at (by omega), zv_at (by omega)]
    rw [zv_at j1]
    by_cases j0 : j = 0
    · rw [j0, zv_is, zv_at (by omega), zv_at (by omega)]
    rw [zv_at j0, e60]
    unfold pXt
    rw [zp_ne j0]
    rfl
  have kO : pOK (sXt h 60) := by
    unfold sXt
    rw [if_neg h4]
    exact pOK_put (pOK_put hd.1 (by omega)) (by have := hd.1.2.1; omega)
  refine ⟨⟨fun m h1 h2 => ?_, fun j hj => ?_, ?_, ?_, ?_, ?_, ?_⟩, ?_⟩
  · by_cases c : m = 60
    · rw [c, k60]
    · rw [zv_other c, zv_other c, f.1 m h1 h2, sAT_ne c]
      unfold sXt
      rw [if_neg h4, zv_other c, zv_other c]
  · rw [zv_other (by omega), zv_other (by omega), f.2.1 j hj, sAT_ne (by omega)]
    unfold sXt
    rw [if_neg h4, zv_other (by omega), zv_other (by omega)]
  · rw [k60]
    exact kO
  · exact f.2.2.2.1
  · exact f.2.2.2.2.1
  · exact f.2.2.2.2.2.1
  · exact f.2.2.2.2.2.2
  · rw [e60]
    exact zp_at
theorem ct_extra {E : zE} {d : Nat} {k : Nat → Nat × Nat} {h : Nat → Int → Int} {r : Nat → Int → Option Nat} {l : Nat → Nat → Int64} {n : Nat} {p : Int → Int} {w dd : Int} (ep : h 60 = p) (ew : h 59 17 = w) (ed : h 59 18 = dd) (hd : dP h) (h2 : zb dd) : zCT E (d + 9) M_X12_extra [.ref 59] (zJ (k, h, r, l, n)) 0 0 (zVx (.int (iI (if p 0 = 4 then -4 else (sBI (fun v => dMi (zp (pXt p) (11 + 2 * p 0) v) w dd) (fun m => 10 * (m : Int)) 31).1))) (zG k r l n (dE (sXt h)))) := by
  have ok := ok_X12_extra
  refine zCT_of pn_X12_extra (Nat.le_of_ble_eq_true rfl) ?_
  show zGo _ _ _ _ _ _ 0 ([some (.ref 59), none, none], [], _, _, _)
  subst ep
  subst ew
  subst ed
  have a0 := hd.1.1
  have a1 := hd.1.2.1
  refine s_ldA0 ok rfl ?_
  refine s_getF ok rfl rfl rfl rfl ?_
  refine s_ci ok rfl ?_
  refine s_iald ok rfl (by exact rfl) (by exact rfl) (by omega) (by omega) ?_
  refine s_ci ok rfl ?_
  refine s_c_eq ok rfl ⟨by omega, by omega⟩ ⟨by omega, by omega⟩ (fun c7 => ?_) (fun c7 => ?_)
  · refine s_ci ok rfl ?_
    refine s_retI ok rfl ⟨congrArg (fun z => some (Value.int (iI z))) (if_pos c7).symm, _, rfl, (by unfold sXt; rw [if_pos c7]; exact dE.rf hd)⟩
  · refine s_ldA0 ok rfl ?_
    refine s_getF ok rfl rfl rfl rfl ?_
    refine s_ci ok rfl ?_
    refine s_iald ok rfl (by exact rfl) (by exact rfl) (by omega) (by omega) ?_
    refine s_stI1 ok rfl rfl ?_
    refine s_ldA0 ok rfl ?_
    refine s_ci ok rfl ?_
    refine s_ci ok rfl ?_
    refine s_callVv ok rfl rfl rfl rfl rfl rfl (ct_addsTrain hd.1.1 (by omega)) ?_
    refine s_ldA0 ok rfl ?_
    refine s_ci ok rfl ?_
    refine s_ci ok rfl ?_
    refine s_ldA0 ok rfl ?_
    refine s_getF ok rfl rfl rfl rfl ?_
    refine s_ci ok rfl ?_
    refine s_iald ok rfl (by exact rfl) (by exact rfl) (by omega) (by omega) ?_
    rw [show sAT h 0 9 60 0 = h 60 0 + 1 from zv_is]
    refine s_ci ok rfl ?_
    refine s_sub ok rfl ?_
    refine s_mul ok rfl ?_
    refine s_add ok rfl ?_
    rw [show 11 + 2 * (h 60 0 + 1 - 1) = 11 + 2 * h 60 0 by omega]
    refine s_ci ok rfl ?_
    refine s_ci ok rfl ?_
    refine s_ci ok rfl ?_
    refine s_callVx ok rfl rfl rfl rfl rfl rfl (ct_bestIn (h := sAT h 0 9) (p := pXt (h 60)) (w := h 59 17) (dd := h 59 18) (pl := 11 + 2 * h 60 0) (V := fun m => 10 * (m : Int)) (n9 := 31) rfl (congrFun (sAT_ne (by omega)) 17) (congrFun (sAT_ne (by omega)) 18) (dP_AT hd c7) h2 (by omega) (by omega) (by omega) rfl (fun m => by omega) ⟨by omega, by omega⟩ (fun m _ => ⟨by omega, by omega⟩) (fun m _ => ⟨by omega, pOK_put (pXt_ok hd.1 c7) (by omega)⟩) (by omega)) (fun σ47 hσ47 => ?_)
    obtain ⟨g47, rfl, hg47⟩ := hσ47
    obtain ⟨f47, e47⟩ := sXt_back hd c7 hg47
    refine s_stI2 ok rfl rfl ?_
    refine s_ldA0 ok rfl ?_
    refine s_getF ok rfl rfl rfl rfl ?_
    refine s_ci ok rfl ?_
    refine s_dup2 ok rfl ?_
    refine s_iald ok rfl (by exact rfl) (by exact rfl) (by omega) (by omega) ?_
    rw [e47]
    refine s_ci ok rfl ?_
    refine s_sub ok rfl ?_
    rw [show h 60 0 + 1 - 1 = h 60 0 by omega]
    refine s_iast ok rfl (by exact rfl) (by exact rfl) (by omega) (by omega) (fun q => by cases q) ?_
    refine s_ldA0 ok rfl ?_
    refine s_getF ok rfl rfl rfl rfl ?_
    refine s_ci ok rfl ?_
    refine s_ldI1 ok rfl ?_
    refine s_iast ok rfl (by exact rfl) (by exact rfl) (by omega) (by omega) (fun q => by cases q) ?_
    refine s_ldI2 ok rfl ?_
    refine s_retI ok rfl ⟨congrArg (fun z => some (Value.int (iI z))) (if_neg c7).symm, _, rfl, f47⟩
