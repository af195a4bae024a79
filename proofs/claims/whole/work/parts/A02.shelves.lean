/-! the class: questions about its shelves -/
theorem zfin_hi {a : Nat} (h : 87 ≤ a) : zfin a = false := by
  unfold zfin
  have e : ∀ b : Nat, b < 87 → Nat.beq a b = false := fun b hb => by
    cases q : Nat.beq a b
    · rfl
    · have := Nat.eq_of_beq_eq_true q
      omega
  rw [e 3 (by omega), e 4 (by omega), e 15 (by omega), e 26 (by omega), e 37 (by omega), e 59 (by omega)]
  rfl
def cw (r : Nat → Int → Option Nat) (t : Int) : Nat := (r 56 t).getD 0
theorem cw_is {r : Nat → Int → Option Nat} {t : Int} {w : Nat} (e : r 56 t = some w) : cw r t = w := by
  unfold cw
  rw [e]
  rfl
theorem zct_cg {E : zE} {d : Nat} {M : zM} {vs : List Value} {σ τ : zS} {a b : Int} (e : a = b) (h : zCT E d M vs σ 0 0 (zV (.int (iI a)) τ)) : zCT E d M vs σ 0 0 (zV (.int (iI b)) τ) := by
  rw [← e]
  exact h
theorem ct_rRow {E : zE} {d : Nat} {k : Nat → Nat × Nat} {h : Nat → Int → Int} {r : Nat → Int → Option Nat} {l : Nat → Nat → Int64} {n : Nat} (hc : cSh k h r n) {t : Int} (zt : zb t) : zCT E (d + 1) M_X11_refusalOfRow [.ref 3, .int (iI t)] (zJ (k, h, r, l, n)) 0 0 (zV (.int (iI (sWR h t (-1)))) (zJ (k, h, r, l, n))) := zct_cg (cSh_row hc) (ct_refusalOfRow zt)
theorem ct_rOne {E : zE} {d : Nat} {k : Nat → Nat × Nat} {h : Nat → Int → Int} {r : Nat → Int → Option Nat} {l : Nat → Nat → Int64} {n : Nat} (hc : cSh k h r n) {t : Int} (zt : zb t) : zCT E (d + 1) M_X11_refusalOfOne [.ref 3, .int (iI t)] (zJ (k, h, r, l, n)) 0 0 (zV (.int (iI (sWK h t))) (zJ (k, h, r, l, n))) := zct_cg (cSh_one hc) (ct_refusalOfOne zt)
theorem sWR_z {h : Nat → Int → Int} {t b : Int} : zb (sWR h t b) := by
  unfold sWR
  (repeat' split) <;> exact ⟨by omega, by omega⟩
theorem sWK_z {h : Nat → Int → Int} {t : Int} : zb (sWK h t) := by
  unfold sWK
  (repeat' split) <;> exact ⟨by omega, by omega⟩
theorem ct_cost11 {E : zE} {d : Nat} {k : Nat → Nat × Nat} {h : Nat → Int → Int} {r : Nat → Int → Option Nat} {l : Nat → Nat → Int64} {n : Nat} (hc : cSh k h r n) {t : Int} (zt : zb t) : zCT E (d + 6) M_X11_cost [.ref 3, .int (iI (t))] (zJ (k, h, r, l, n)) 0 0 (zV (.int (iI (if sWK h t = 0 then kCo (h 81 t) (h 82 t) else sWK h t))) (zJ (k, h, r, l, n))) := by
  have ok := ok_X11_cost
  refine zCT_of pn_X11_cost (Nat.le_of_ble_eq_true rfl) ?_
  show zGo _ _ _ _ _ _ 0 ([some (.ref 3), some (.int (iI (t))), none], [], _, _, _)
  refine s_ldA0 ok rfl ?_
  refine s_ldI1 ok rfl ?_
  refine s_callV ok rfl rfl rfl rfl rfl rfl (ct_rOne hc zt) ?_
  refine s_stI2 ok rfl rfl ?_
  refine s_ldI2 ok rfl ?_
  refine s_if_eq ok rfl sWK_z (fun c7 => ?_) (fun c7 => ?_)
  · obtain ⟨⟨t0, t1⟩, h80, ⟨v, r5, wv, -⟩, -⟩ := cSh_k hc c7
    refine s_ldA0 ok rfl ?_
    refine s_getF ok rfl rfl rfl rfl ?_
    refine s_ldI1 ok rfl ?_
    refine s_aald ok rfl (by exact rfl) (by exact rfl) (by exact rfl) (by omega) (by omega) r5 ?_
    refine s_callD ok rfl rfl rfl rfl (vt_price wv) ?_
    refine s_retI ok rfl ⟨congrArg (fun z => some (Value.int (iI z))) (by first | exact (if_pos c7).symm | exact (if_neg c7).symm), rfl⟩
  · refine s_ldI2 ok rfl ?_
    refine s_goto ok rfl ?_
    refine s_retI ok rfl ⟨congrArg (fun z => some (Value.int (iI z))) (by first | exact (if_pos c7).symm | exact (if_neg c7).symm), rfl⟩
theorem ct_put11 {E : zE} {d : Nat} {k : Nat → Nat × Nat} {h : Nat → Int → Int} {r : Nat → Int → Option Nat} {l : Nat → Nat → Int64} {n : Nat} (hc : cSh k h r n) {t a b : Int} (zt : zb t) (za : zb a) (z2 : zb b) : zCT E (d + 3) M_X11_put [.ref 3, .int (iI (t)), .int (iI (a)), .int (iI (b))] (zJ (k, h, r, l, n)) 0 0 (zV (.int (iI (if sWR h t (-1) = 0 then (if 0 ≤ a ∧ a < h 84 t then 0 else -13) else sWR h t (-1)))) (zJ (k, (if sWR h t (-1) = 0 ∧ 0 ≤ a ∧ a < h 84 t then zv h (cw r t + 1) a (nwV (h 83 t) b) else h), r, l, n))) := by
  have ok := ok_X11_put
  refine zCT_of pn_X11_put (Nat.le_of_ble_eq_true rfl) ?_
  show zGo _ _ _ _ _ _ 0 ([some (.ref 3), some (.int (iI (t))), some (.int (iI (a))), some (.int (iI (b))), none], [], _, _, _)
  refine s_ldA0 ok rfl ?_
  refine s_ldI1 ok rfl ?_
  refine s_callV ok rfl rfl rfl rfl rfl rfl (ct_rRow hc zt) ?_
  refine s_stI4 ok rfl rfl ?_
  refine s_ldI4 ok rfl ?_
  refine s_if_eq ok rfl sWR_z (fun c9 => ?_) (fun c9 => ?_)
  · obtain ⟨⟨t0, t1⟩, h80, r5, w, r6, hw, ⟨w0, w1⟩, ⟨s0, s1⟩, za9, hel, hrg⟩ := cSh_w hc c9
    have eL : ((h 84 t).toNat : Int) = h 84 t := by omega
    refine s_ldA0 ok rfl ?_
    refine s_getF ok rfl rfl rfl rfl ?_
    refine s_ldI1 ok rfl ?_
    refine s_aald ok rfl (by exact rfl) (by exact rfl) (by exact rfl) (by omega) (by omega) r6 ?_
    refine s_ldI2 ok rfl ?_
    refine s_callV ok rfl rfl rfl rfl hw.1 rfl (ct_rhas hw za) ?_
    refine s_if_eq ok rfl zif01 (fun c25 => ?_) (fun c25 => ?_)
    · refine s_ci ok rfl ?_
      have no : ¬ (0 ≤ a ∧ a < h 84 t) := fun q => zif_f c25 ⟨q.1, by omega⟩
      exact s_retI ok rfl ⟨congrArg (fun z => some (Value.int (iI z))) (by rw [if_pos c9, if_neg no]), by rw [if_neg (fun q => no q.2)]⟩
    · refine s_ldA0 ok rfl ?_
      refine s_getF ok rfl rfl rfl rfl ?_
      refine s_ldI1 ok rfl ?_
      refine s_aald ok rfl (by exact rfl) (by exact rfl) (by exact rfl) (by omega) (by omega) r6 ?_
      refine s_ldI2 ok rfl ?_
      refine s_ldI3 ok rfl ?_
      refine s_callVv ok rfl rfl rfl rfl hw.1 rfl (ct_rwrite hw za) ?_
      refine s_ci ok rfl ?_
      have yes : 0 ≤ a ∧ a < h 84 t := by have := zif_t c25; omega
      refine s_retI ok rfl ⟨congrArg (fun z => some (Value.int (iI z))) (by rw [if_pos c9, if_pos yes]), ?_⟩
      rw [if_pos ⟨yes.1, by omega⟩, if_pos ⟨c9, yes⟩, cw_is r6]
  · refine s_ldI4 ok rfl ?_
    exact s_retI ok rfl ⟨congrArg (fun z => some (Value.int (iI z))) (if_neg c9).symm, by rw [if_neg (fun q => c9 q.1)]⟩
theorem cSh_e {k : Nat → Nat × Nat} {h : Nat → Int → Int} {r : Nat → Int → Option Nat} {n : Nat} (c : cSh k h r n) {t : Int} (t0 : 0 ≤ t) (t1 : t < 8) : (r 55 t = none ∧ r 56 t = none ↔ h 80 t = 0) ∧ (r 56 t = none ↔ ¬ h 80 t = 2) := by
  rcases c.1 t t0 t1 with ⟨z1, z2, z3⟩ | ⟨z1, ⟨v, z2, -⟩, z3⟩ | ⟨z1, z2, w, z3, -⟩
  · exact ⟨⟨fun _ => z1, fun _ => ⟨z2, z3⟩⟩, ⟨fun _ => by omega, fun _ => z3⟩⟩
  · exact ⟨⟨fun q => (by rw [z2] at q; cases q.1), fun q => (by omega)⟩, ⟨fun _ => by omega, fun _ => z3⟩⟩
  · exact ⟨⟨fun q => (by rw [z3] at q; cases q.2), fun q => (by omega)⟩, ⟨fun q => (by rw [z3] at q; cases q), fun q => absurd z1 q⟩⟩
theorem cSh_2 {k : Nat → Nat × Nat} {h : Nat → Int → Int} {r : Nat → Int → Option Nat} {n : Nat} (c : cSh k h r n) {t : Int} (t0 : 0 ≤ t) (t1 : t < 8) {w : Nat} (e : r 56 t = some w) : h 80 t = 2 ∧ rw_ k h r w (w + 1) (h 84 t).toNat (h 83 t) ∧ (87 ≤ w ∧ w + 1 < n) ∧ (0 ≤ h 84 t ∧ h 84 t ≤ 100) := by
  rcases c.1 t t0 t1 with ⟨z1, z2, z3⟩ | ⟨z1, ⟨v, z2, -⟩, z3⟩ | ⟨z1, z2, w9, z3, z4, z5, z6, -⟩
  · rw [e] at z3
    cases z3
  · rw [e] at z3
    cases z3
  · rw [e] at z3
    cases z3
    exact ⟨z1, z4, z5, z6⟩
theorem cS_so {k : Nat → Nat × Nat} {h : Nat → Int → Int} {r : Nat → Int → Option Nat} {n : Nat} (c : cSh k h r n) {t : Int} (t0 : 0 ≤ t) (t1 : t < 8) {w : Nat} (e : r 56 t = some w) : zb (h 83 t) := by
  obtain ⟨-, ⟨-, -, -, -, -, s0, s1⟩, -⟩ := cSh_2 c t0 t1 e
  exact ⟨by omega, by omega⟩
theorem ct_copy11 {E : zE} {d : Nat} {k : Nat → Nat × Nat} {h : Nat → Int → Int} {r : Nat → Int → Option Nat} {l : Nat → Nat → Int64} {n : Nat} (hc : cSh k h r n) {t a e b m9 : Int} (zt : zb t) (za : zb a) (ze : zb e) (z2 : zb b) (zn : zb m9) : zCT E (d + 3) M_X11_copy [.ref 3, .int (iI (t)), .int (iI (a)), .int (iI (e)), .int (iI (b)), .int (iI (m9))] (zJ (k, h, r, l, n)) 0 0 (zV (.int (iI (if (0 ≤ t ∧ t < 8) ∧ (0 ≤ e ∧ e < 8) then (if h 80 t = 0 ∨ h 80 e = 0 then -11 else if ¬ (h 80 t = 2 ∧ h 80 e = 2 ∧ h 83 t = h 83 e) then -12 else if (m9 < 0 ∨ a < 0 ∨ b < 0 ∨ h 84 t - a < m9 ∨ h 84 e - b < m9) then -13 else m9) else -1))) (zJ (k, (if ((0 ≤ t ∧ t < 8) ∧ (0 ≤ e ∧ e < 8)) ∧ (h 80 t = 2 ∧ h 80 e = 2 ∧ h 83 t = h 83 e) ∧ ¬ (m9 < 0 ∨ a < 0 ∨ b < 0 ∨ h 84 t - a < m9 ∨ h 84 e - b < m9) then zcp h (cw r t + 1) (cw r e + 1) a b m9 else h), r, l, n))) := by
  have ok := ok_X11_copy
  refine zCT_of pn_X11_copy (Nat.le_of_ble_eq_true rfl) ?_
  show zGo _ _ _ _ _ _ 0 ([some (.ref 3), some (.int (iI (t))), some (.int (iI (a))), some (.int (iI (e))), some (.int (iI (b))), some (.int (iI (m9))), none, none], [], _, _, _)
  rcases zopt (r 56 t) with e6 | ⟨v, e6⟩ <;> rcases zopt (r 56 e) with f6 | ⟨v2, f6⟩
  · skip
    refine s_ldI1 ok rfl ?_
    refine s_callS ok rfl rfl rfl rfl (ct_isShelf11 zt) ?_
    refine s_if_eq ok rfl zif01 (fun c4 => ?_) (fun c4 => ?_)
    · refine s_ci ok rfl ?_
      have no : ¬ ((0 ≤ t ∧ t < 8) ∧ (0 ≤ e ∧ e < 8)) := fun q => by first | exact zif_f c4 q.1 | exact zif_f c11 q.2
      exact s_retI ok rfl ⟨congrArg (fun z => some (Value.int (iI z))) (if_neg no).symm, by rw [if_neg (fun q => no q.1)]⟩
    · refine s_ldI3 ok rfl ?_
      refine s_callS ok rfl rfl rfl rfl (ct_isShelf11 ze) ?_
      refine s_if_eq ok rfl zif01 (fun c11 => ?_) (fun c11 => ?_)
      · refine s_ci ok rfl ?_
        have no : ¬ ((0 ≤ t ∧ t < 8) ∧ (0 ≤ e ∧ e < 8)) := fun q => by first | exact zif_f c4 q.1 | exact zif_f c11 q.2
        exact s_retI ok rfl ⟨congrArg (fun z => some (Value.int (iI z))) (if_neg no).symm, by rw [if_neg (fun q => no q.1)]⟩
      · obtain ⟨x0, x1⟩ := zif_t c4
        obtain ⟨y0, y1⟩ := zif_t c11
        have yy : (0 ≤ t ∧ t < 8) ∧ (0 ≤ e ∧ e < 8) := ⟨⟨x0, x1⟩, y0, y1⟩
        refine s_ldA0 ok rfl ?_
        refine s_ldI1 ok rfl ?_
        refine s_callV ok rfl rfl rfl rfl rfl rfl (ct_isEmpty11 x0 x1) ?_
        refine s_if_eq ok rfl zif01 (fun c21 => ?_) (fun c21 => ?_)
        · refine s_ldA0 ok rfl ?_
          refine s_ldI3 ok rfl ?_
          refine s_callV ok rfl rfl rfl rfl rfl rfl (ct_isEmpty11 y0 y1) ?_
          refine s_if_eq ok rfl zif01 (fun c29 => ?_) (fun c29 => ?_)
          · refine s_ldA0 ok rfl ?_
            refine s_getF ok rfl rfl rfl rfl ?_
            refine s_ldI1 ok rfl ?_
            refine s_aaldN ok rfl (by exact rfl) (by exact rfl) (by exact rfl) (by omega) (by omega) e6 ?_
            refine s_stN6 ok rfl rfl ?_
            refine s_ldA0 ok rfl ?_
            refine s_getF ok rfl rfl rfl rfl ?_
            refine s_ldI3 ok rfl ?_
            refine s_aaldN ok rfl (by exact rfl) (by exact rfl) (by exact rfl) (by omega) (by omega) f6 ?_
            refine s_stN7 ok rfl rfl ?_
            refine s_ldN6 ok rfl ?_
            refine s_nullN ok rfl ?_
            refine s_ci ok rfl ?_
            have no : ¬ (h 80 t = 2 ∧ h 80 e = 2 ∧ h 83 t = h 83 e) := fun q => by first | exact absurd (cSh_e hc x0 x1).2.1 (fun z => z e6 q.1) | exact absurd (cSh_e hc y0 y1).2.1 (fun z => z f6 q.2.1) | exact c71 q.2.2
            refine s_retI ok rfl ⟨congrArg (fun z => some (Value.int (iI z))) (by rw [if_pos yy, if_neg (fun q => q.elim (fun z => zif_f c21 ((cSh_e hc x0 x1).1.2 z)) (fun z => zif_f c29 ((cSh_e hc y0 y1).1.2 z))), if_pos no]), by rw [if_neg (fun q => no q.2.1)]⟩
          · refine s_ci ok rfl ?_
            have yo : h 80 t = 0 ∨ h 80 e = 0 := by first | exact Or.inl ((cSh_e hc x0 x1).1.1 (zif_t c21)) | exact Or.inr ((cSh_e hc y0 y1).1.1 (zif_t c29))
            exact s_retI ok rfl ⟨congrArg (fun z => some (Value.int (iI z))) (by rw [if_pos yy, if_pos yo]), by rw [if_neg (fun q => by omega)]⟩
        · refine s_ci ok rfl ?_
          have yo : h 80 t = 0 ∨ h 80 e = 0 := by first | exact Or.inl ((cSh_e hc x0 x1).1.1 (zif_t c21)) | exact Or.inr ((cSh_e hc y0 y1).1.1 (zif_t c29))
          exact s_retI ok rfl ⟨congrArg (fun z => some (Value.int (iI z))) (by rw [if_pos yy, if_pos yo]), by rw [if_neg (fun q => by omega)]⟩
  · skip
    refine s_ldI1 ok rfl ?_
    refine s_callS ok rfl rfl rfl rfl (ct_isShelf11 zt) ?_
    refine s_if_eq ok rfl zif01 (fun c4 => ?_) (fun c4 => ?_)
    · refine s_ci ok rfl ?_
      have no : ¬ ((0 ≤ t ∧ t < 8) ∧ (0 ≤ e ∧ e < 8)) := fun q => by first | exact zif_f c4 q.1 | exact zif_f c11 q.2
      exact s_retI ok rfl ⟨congrArg (fun z => some (Value.int (iI z))) (if_neg no).symm, by rw [if_neg (fun q => no q.1)]⟩
    · refine s_ldI3 ok rfl ?_
      refine s_callS ok rfl rfl rfl rfl (ct_isShelf11 ze) ?_
      refine s_if_eq ok rfl zif01 (fun c11 => ?_) (fun c11 => ?_)
      · refine s_ci ok rfl ?_
        have no : ¬ ((0 ≤ t ∧ t < 8) ∧ (0 ≤ e ∧ e < 8)) := fun q => by first | exact zif_f c4 q.1 | exact zif_f c11 q.2
        exact s_retI ok rfl ⟨congrArg (fun z => some (Value.int (iI z))) (if_neg no).symm, by rw [if_neg (fun q => no q.1)]⟩
      · obtain ⟨x0, x1⟩ := zif_t c4
        obtain ⟨y0, y1⟩ := zif_t c11
        have yy : (0 ≤ t ∧ t < 8) ∧ (0 ≤ e ∧ e < 8) := ⟨⟨x0, x1⟩, y0, y1⟩
        refine s_ldA0 ok rfl ?_
        refine s_ldI1 ok rfl ?_
        refine s_callV ok rfl rfl rfl rfl rfl rfl (ct_isEmpty11 x0 x1) ?_
        refine s_if_eq ok rfl zif01 (fun c21 => ?_) (fun c21 => ?_)
        · refine s_ldA0 ok rfl ?_
          refine s_ldI3 ok rfl ?_
          refine s_callV ok rfl rfl rfl rfl rfl rfl (ct_isEmpty11 y0 y1) ?_
          refine s_if_eq ok rfl zif01 (fun c29 => ?_) (fun c29 => ?_)
          · refine s_ldA0 ok rfl ?_
            refine s_getF ok rfl rfl rfl rfl ?_
            refine s_ldI1 ok rfl ?_
            refine s_aaldN ok rfl (by exact rfl) (by exact rfl) (by exact rfl) (by omega) (by omega) e6 ?_
            refine s_stN6 ok rfl rfl ?_
            refine s_ldA0 ok rfl ?_
            refine s_getF ok rfl rfl rfl rfl ?_
            refine s_ldI3 ok rfl ?_
            refine s_aald ok rfl (by exact rfl) (by exact rfl) (by exact rfl) (by omega) (by omega) f6 ?_
            refine s_stA7 ok rfl rfl ?_
            refine s_ldN6 ok rfl ?_
            refine s_nullN ok rfl ?_
            refine s_ci ok rfl ?_
            have no : ¬ (h 80 t = 2 ∧ h 80 e = 2 ∧ h 83 t = h 83 e) := fun q => by first | exact absurd (cSh_e hc x0 x1).2.1 (fun z => z e6 q.1) | exact absurd (cSh_e hc y0 y1).2.1 (fun z => z f6 q.2.1) | exact c71 q.2.2
            refine s_retI ok rfl ⟨congrArg (fun z => some (Value.int (iI z))) (by rw [if_pos yy, if_neg (fun q => q.elim (fun z => zif_f c21 ((cSh_e hc x0 x1).1.2 z)) (fun z => zif_f c29 ((cSh_e hc y0 y1).1.2 z))), if_pos no]), by rw [if_neg (fun q => no q.2.1)]⟩
          · refine s_ci ok rfl ?_
            have yo : h 80 t = 0 ∨ h 80 e = 0 := by first | exact Or.inl ((cSh_e hc x0 x1).1.1 (zif_t c21)) | exact Or.inr ((cSh_e hc y0 y1).1.1 (zif_t c29))
            exact s_retI ok rfl ⟨congrArg (fun z => some (Value.int (iI z))) (by rw [if_pos yy, if_pos yo]), by rw [if_neg (fun q => by omega)]⟩
        · refine s_ci ok rfl ?_
          have yo : h 80 t = 0 ∨ h 80 e = 0 := by first | exact Or.inl ((cSh_e hc x0 x1).1.1 (zif_t c21)) | exact Or.inr ((cSh_e hc y0 y1).1.1 (zif_t c29))
          exact s_retI ok rfl ⟨congrArg (fun z => some (Value.int (iI z))) (by rw [if_pos yy, if_pos yo]), by rw [if_neg (fun q => by omega)]⟩
  · skip
    refine s_ldI1 ok rfl ?_
    refine s_callS ok rfl rfl rfl rfl (ct_isShelf11 zt) ?_
    refine s_if_eq ok rfl zif01 (fun c4 => ?_) (fun c4 => ?_)
    · refine s_ci ok rfl ?_
      have no : ¬ ((0 ≤ t ∧ t < 8) ∧ (0 ≤ e ∧ e < 8)) := fun q => by first | exact zif_f c4 q.1 | exact zif_f c11 q.2
      exact s_retI ok rfl ⟨congrArg (fun z => some (Value.int (iI z))) (if_neg no).symm, by rw [if_neg (fun q => no q.1)]⟩
    · refine s_ldI3 ok rfl ?_
      refine s_callS ok rfl rfl rfl rfl (ct_isShelf11 ze) ?_
      refine s_if_eq ok rfl zif01 (fun c11 => ?_) (fun c11 => ?_)
      · refine s_ci ok rfl ?_
        have no : ¬ ((0 ≤ t ∧ t < 8) ∧ (0 ≤ e ∧ e < 8)) := fun q => by first | exact zif_f c4 q.1 | exact zif_f c11 q.2
        exact s_retI ok rfl ⟨congrArg (fun z => some (Value.int (iI z))) (if_neg no).symm, by rw [if_neg (fun q => no q.1)]⟩
      · obtain ⟨x0, x1⟩ := zif_t c4
        obtain ⟨y0, y1⟩ := zif_t c11
        have yy : (0 ≤ t ∧ t < 8) ∧ (0 ≤ e ∧ e < 8) := ⟨⟨x0, x1⟩, y0, y1⟩
        refine s_ldA0 ok rfl ?_
        refine s_ldI1 ok rfl ?_
        refine s_callV ok rfl rfl rfl rfl rfl rfl (ct_isEmpty11 x0 x1) ?_
        refine s_if_eq ok rfl zif01 (fun c21 => ?_) (fun c21 => ?_)
        · refine s_ldA0 ok rfl ?_
          refine s_ldI3 ok rfl ?_
          refine s_callV ok rfl rfl rfl rfl rfl rfl (ct_isEmpty11 y0 y1) ?_
          refine s_if_eq ok rfl zif01 (fun c29 => ?_) (fun c29 => ?_)
          · refine s_ldA0 ok rfl ?_
            refine s_getF ok rfl rfl rfl rfl ?_
            refine s_ldI1 ok rfl ?_
            refine s_aald ok rfl (by exact rfl) (by exact rfl) (by exact rfl) (by omega) (by omega) e6 ?_
            refine s_stA6 ok rfl rfl ?_
            refine s_ldA0 ok rfl ?_
            refine s_getF ok rfl rfl rfl rfl ?_
            refine s_ldI3 ok rfl ?_
            refine s_aaldN ok rfl (by exact rfl) (by exact rfl) (by exact rfl) (by omega) (by omega) f6 ?_
            refine s_stN7 ok rfl rfl ?_
            refine s_ldA6 ok rfl ?_
            refine s_nullR ok rfl ?_
            refine s_ldN7 ok rfl ?_
            refine s_nullN ok rfl ?_
            refine s_ci ok rfl ?_
            have no : ¬ (h 80 t = 2 ∧ h 80 e = 2 ∧ h 83 t = h 83 e) := fun q => by first | exact absurd (cSh_e hc x0 x1).2.1 (fun z => z e6 q.1) | exact absurd (cSh_e hc y0 y1).2.1 (fun z => z f6 q.2.1) | exact c71 q.2.2
            refine s_retI ok rfl ⟨congrArg (fun z => some (Value.int (iI z))) (by rw [if_pos yy, if_neg (fun q => q.elim (fun z => zif_f c21 ((cSh_e hc x0 x1).1.2 z)) (fun z => zif_f c29 ((cSh_e hc y0 y1).1.2 z))), if_pos no]), by rw [if_neg (fun q => no q.2.1)]⟩
          · refine s_ci ok rfl ?_
            have yo : h 80 t = 0 ∨ h 80 e = 0 := by first | exact Or.inl ((cSh_e hc x0 x1).1.1 (zif_t c21)) | exact Or.inr ((cSh_e hc y0 y1).1.1 (zif_t c29))
            exact s_retI ok rfl ⟨congrArg (fun z => some (Value.int (iI z))) (by rw [if_pos yy, if_pos yo]), by rw [if_neg (fun q => by omega)]⟩
        · refine s_ci ok rfl ?_
          have yo : h 80 t = 0 ∨ h 80 e = 0 := by first | exact Or.inl ((cSh_e hc x0 x1).1.1 (zif_t c21)) | exact Or.inr ((cSh_e hc y0 y1).1.1 (zif_t c29))
          exact s_retI ok rfl ⟨congrArg (fun z => some (Value.int (iI z))) (by rw [if_pos yy, if_pos yo]), by rw [if_neg (fun q => by omega)]⟩
  · skip
    refine s_ldI1 ok rfl ?_
    refine s_callS ok rfl rfl rfl rfl (ct_isShelf11 zt) ?_
    refine s_if_eq ok rfl zif01 (fun c4 => ?_) (fun c4 => ?_)
    · refine s_ci ok rfl ?_
      have no : ¬ ((0 ≤ t ∧ t < 8) ∧ (0 ≤ e ∧ e < 8)) := fun q => by first | exact zif_f c4 q.1 | exact zif_f c11 q.2
      exact s_retI ok rfl ⟨congrArg (fun z => some (Value.int (iI z))) (if_neg no).symm, by rw [if_neg (fun q => no q.1)]⟩
    · refine s_ldI3 ok rfl ?_
      refine s_callS ok rfl rfl rfl rfl (ct_isShelf11 ze) ?_
      refine s_if_eq ok rfl zif01 (fun c11 => ?_) (fun c11 => ?_)
      · refine s_ci ok rfl ?_
        have no : ¬ ((0 ≤ t ∧ t < 8) ∧ (0 ≤ e ∧ e < 8)) := fun q => by first | exact zif_f c4 q.1 | exact zif_f c11 q.2
        exact s_retI ok rfl ⟨congrArg (fun z => some (Value.int (iI z))) (if_neg no).symm, by rw [if_neg (fun q => no q.1)]⟩
      · obtain ⟨x0, x1⟩ := zif_t c4
        obtain ⟨y0, y1⟩ := zif_t c11
        have yy : (0 ≤ t ∧ t < 8) ∧ (0 ≤ e ∧ e < 8) := ⟨⟨x0, x1⟩, y0, y1⟩
        refine s_ldA0 ok rfl ?_
        refine s_ldI1 ok rfl ?_
        refine s_callV ok rfl rfl rfl rfl rfl rfl (ct_isEmpty11 x0 x1) ?_
        refine s_if_eq ok rfl zif01 (fun c21 => ?_) (fun c21 => ?_)
        · refine s_ldA0 ok rfl ?_
          refine s_ldI3 ok rfl ?_
          refine s_callV ok rfl rfl rfl rfl rfl rfl (ct_isEmpty11 y0 y1) ?_
          refine s_if_eq ok rfl zif01 (fun c29 => ?_) (fun c29 => ?_)
          · refine s_ldA0 ok rfl ?_
            refine s_getF ok rfl rfl rfl rfl ?_
            refine s_ldI1 ok rfl ?_
            refine s_aald ok rfl (by exact rfl) (by exact rfl) (by exact rfl) (by omega) (by omega) e6 ?_
            refine s_stA6 ok rfl rfl ?_
            refine s_ldA0 ok rfl ?_
            refine s_getF ok rfl rfl rfl rfl ?_
            refine s_ldI3 ok rfl ?_
            refine s_aald ok rfl (by exact rfl) (by exact rfl) (by exact rfl) (by omega) (by omega) f6 ?_
            refine s_stA7 ok rfl rfl ?_
            refine s_ldA6 ok rfl ?_
            refine s_nullR ok rfl ?_
            refine s_ldA7 ok rfl ?_
            refine s_nullR ok rfl ?_
            refine s_ldA6 ok rfl ?_
            refine s_getJ 0 ok rfl (cSh_2 hc x0 x1 e6).2.1.1 rfl rfl ?_
            rw [(cSh_2 hc x0 x1 e6).2.1.2.1]
            refine s_ldA7 ok rfl ?_
            refine s_getJ 0 ok rfl (cSh_2 hc y0 y1 f6).2.1.1 rfl rfl ?_
            rw [(cSh_2 hc y0 y1 f6).2.1.2.1]
            refine s_c_eq ok rfl (cS_so hc x0 x1 e6) (cS_so hc y0 y1 f6) (fun c71 => ?_) (fun c71 => ?_)
            · refine s_ldA6 ok rfl ?_
              obtain ⟨-, aw, ⟨w0, w1⟩, s0, s1⟩ := cSh_2 hc x0 x1 e6
              obtain ⟨-, bw, ⟨w2, w3⟩, s2, s3⟩ := cSh_2 hc y0 y1 f6
              have eL : ((h 84 t).toNat : Int) = h 84 t := by omega
              have eM : ((h 84 e).toNat : Int) = h 84 e := by omega
              refine s_ldI2 ok rfl ?_
              refine s_ldI5 ok rfl ?_
              refine s_callV ok rfl rfl rfl rfl aw.1 rfl (ct_rhasRun aw za zn) ?_
              refine s_if_eq ok rfl zif01 (fun c85 => ?_) (fun c85 => ?_)
              · refine s_ci ok rfl ?_
                have yo : (h 80 t = 2 ∧ h 80 e = 2 ∧ h 83 t = h 83 e) := ⟨(cSh_2 hc x0 x1 e6).1, (cSh_2 hc y0 y1 f6).1, c71⟩
                have n0 : ¬ (h 80 t = 0 ∨ h 80 e = 0) := by omega
                have yb : (m9 < 0 ∨ a < 0 ∨ b < 0 ∨ h 84 t - a < m9 ∨ h 84 e - b < m9) := Decidable.byContradiction fun q => by first | exact zif_f c85 ⟨by omega, by omega, by omega, by omega⟩ | exact zif_f c97 ⟨by omega, by omega, by omega, by omega⟩
                exact s_retI ok rfl ⟨congrArg (fun z => some (Value.int (iI z))) (by rw [if_pos yy, if_neg n0, if_neg (fun q => q yo), if_pos yb]), by rw [if_neg (fun q => q.2.2 yb)]⟩
              · refine s_ldA7 ok rfl ?_
                refine s_ldI4 ok rfl ?_
                refine s_ldI5 ok rfl ?_
                refine s_callV ok rfl rfl rfl rfl bw.1 rfl (ct_rhasRun bw z2 zn) ?_
                refine s_if_eq ok rfl zif01 (fun c97 => ?_) (fun c97 => ?_)
                · refine s_ci ok rfl ?_
                  have yo : (h 80 t = 2 ∧ h 80 e = 2 ∧ h 83 t = h 83 e) := ⟨(cSh_2 hc x0 x1 e6).1, (cSh_2 hc y0 y1 f6).1, c71⟩
                  have n0 : ¬ (h 80 t = 0 ∨ h 80 e = 0) := by omega
                  have yb : (m9 < 0 ∨ a < 0 ∨ b < 0 ∨ h 84 t - a < m9 ∨ h 84 e - b < m9) := Decidable.byContradiction fun q => by first | exact zif_f c85 ⟨by omega, by omega, by omega, by omega⟩ | exact zif_f c97 ⟨by omega, by omega, by omega, by omega⟩
                  exact s_retI ok rfl ⟨congrArg (fun z => some (Value.int (iI z))) (by rw [if_pos yy, if_neg n0, if_neg (fun q => q yo), if_pos yb]), by rw [if_neg (fun q => q.2.2 yb)]⟩
                · refine s_ldA6 ok rfl ?_
                  refine s_getF ok rfl aw.1 rfl aw.2.2.1 ?_
                  refine s_ldI2 ok rfl ?_
                  refine s_ldA7 ok rfl ?_
                  refine s_getF ok rfl bw.1 rfl bw.2.2.1 ?_
                  refine s_ldI4 ok rfl ?_
                  refine s_ldI5 ok rfl ?_
                  have g1 := zif_t c85
                  have g2 := zif_t c97
                  have nb : ¬ (m9 < 0 ∨ a < 0 ∨ b < 0 ∨ h 84 t - a < m9 ∨ h 84 e - b < m9) := by omega
                  refine s_copyJ ok rfl rfl aw.2.2.2.1 bw.2.2.2.1 (by omega) (by omega) (by omega) (by omega) (by omega) (by omega) (by omega) (by decide) ?_
                  refine s_ldI5 ok rfl ?_
                  have yo : (h 80 t = 2 ∧ h 80 e = 2 ∧ h 83 t = h 83 e) := ⟨(cSh_2 hc x0 x1 e6).1, (cSh_2 hc y0 y1 f6).1, c71⟩
                  have n0 : ¬ (h 80 t = 0 ∨ h 80 e = 0) := by omega
                  refine s_retI ok rfl ⟨congrArg (fun z => some (Value.int (iI z))) (by rw [if_pos yy, if_neg n0, if_neg (fun q => q yo), if_neg nb]), ?_⟩
                  rw [if_pos ⟨yy, yo, nb⟩, cw_is e6, cw_is f6]
            · refine s_ci ok rfl ?_
              have no : ¬ (h 80 t = 2 ∧ h 80 e = 2 ∧ h 83 t = h 83 e) := fun q => by first | exact absurd (cSh_e hc x0 x1).2.1 (fun z => z e6 q.1) | exact absurd (cSh_e hc y0 y1).2.1 (fun z => z f6 q.2.1) | exact c71 q.2.2
              refine s_retI ok rfl ⟨congrArg (fun z => some (Value.int (iI z))) (by rw [if_pos yy, if_neg (fun q => q.elim (fun z => zif_f c21 ((cSh_e hc x0 x1).1.2 z)) (fun z => zif_f c29 ((cSh_e hc y0 y1).1.2 z))), if_pos no]), by rw [if_neg (fun q => no q.2.1)]⟩
          · refine s_ci ok rfl ?_
            have yo : h 80 t = 0 ∨ h 80 e = 0 := by first | exact Or.inl ((cSh_e hc x0 x1).1.1 (zif_t c21)) | exact Or.inr ((cSh_e hc y0 y1).1.1 (zif_t c29))
            exact s_retI ok rfl ⟨congrArg (fun z => some (Value.int (iI z))) (by rw [if_pos yy, if_pos yo]), by rw [if_neg (fun q => by omega)]⟩
        · refine s_ci ok rfl ?_
          have yo : h 80 t = 0 ∨ h 80 e = 0 := by first | exact Or.inl ((cSh_e hc x0 x1).1.1 (zif_t c21)) | exact Or.inr ((cSh_e hc y0 y1).1.1 (zif_t c29))
          exact s_retI ok rfl ⟨congrArg (fun z => some (Value.int (iI z))) (by rw [if_pos yy, if_pos yo]), by rw [if_neg (fun q => by omega)]⟩
