/-! the text of a day: done -/
/-- the statement of the letter c with the numbers N can be done; what the plan becomes -/
def dOk (p : Int → Int) (c : Int) (N : Int → Int) : Int := if c = 114 then (if N 0 < 4 ∧ 1 ≤ N 1 ∧ N 1 ≤ 60 then 1 else 0) else if c = 116 then (if N 0 ≤ 300 ∧ ¬ p 0 = 4 then 1 else 0) else if c = 112 then (if N 0 < 8 ∧ (N 2 < N 3 ∧ N 3 < 5) ∧ N 4 ≤ 300 ∧ ¬ p 6 = 8 then 1 else 0) else if c = 108 then (if N 0 ≤ 30 then 1 else 0) else if c = 103 then (if 1 ≤ N 0 ∧ N 0 ≤ 30 then 1 else 0) else if c = 115 ∨ c = 104 then 1 else if 0 ≤ N 0 ∧ N 0 < p 0 then 1 else 0
def dPl (p : Int → Int) (c : Int) (N : Int → Int) : Int → Int := if c = 114 then zp p (7 + N 0) (N 1) else if c = 116 then zp (zp (zp p (11 + 2 * p 0) (N 0)) (11 + 2 * p 0 + 1) (N 1)) 0 (p 0 + 1) else if c = 112 then (fun j => if j = 6 then p 6 + 1 else if 19 + 5 * p 6 ≤ j ∧ j < 19 + 5 * p 6 + 5 then N (j - (19 + 5 * p 6)) else p j) else if c = 108 then zp p 2 (N 0) else if c = 103 then zp p 3 (N 0) else if c = 115 then zp p 4 (N 0) else if c = 104 then zp p 5 (N 0) else zp p 1 (zxb (p 1) (N 0))
theorem ct_areStops {E : zE} {d : Nat} {k : Nat → Nat × Nat} {h : Nat → Int → Int} {r : Nat → Int → Option Nat} {l : Nat → Nat → Int64} {n : Nat} {a b : Int} (za : zb a) (z2 : zb b) : zCT E d M_X12_areStops [.ref 59, .int (iI (a)), .int (iI (b))] (zJ (k, h, r, l, n)) 0 0 (zV (.int (iI (if a < b ∧ b < 5 then 1 else 0))) (zJ (k, h, r, l, n))) := by
  have ok := ok_X12_areStops
  refine zCT_of pn_X12_areStops (Nat.le_of_ble_eq_true rfl) ?_
  show zGo _ _ _ _ _ _ 0 ([some (.ref 59), some (.int (iI (a))), some (.int (iI (b)))], [], _, _, _)
  refine s_ldI1 ok rfl ?_
  refine s_ldI2 ok rfl ?_
  refine s_c_ge ok rfl za z2 (fun c2 => ?_) (fun c2 => ?_)
  · refine s_ci ok rfl ?_
    refine s_retZ ok rfl (by first | exact Or.inl rfl | exact Or.inr rfl) ⟨congrArg (fun z => some (Value.int (iI z))) (by first | exact (if_pos (by omega)).symm | exact (if_neg (by omega)).symm), rfl⟩
  · refine s_ldI2 ok rfl ?_
    refine s_ci ok rfl ?_
    refine s_c_ge ok rfl z2 ⟨by omega, by omega⟩ (fun c7 => ?_) (fun c7 => ?_)
    · refine s_ci ok rfl ?_
      refine s_retZ ok rfl (by first | exact Or.inl rfl | exact Or.inr rfl) ⟨congrArg (fun z => some (Value.int (iI z))) (by first | exact (if_pos (by omega)).symm | exact (if_neg (by omega)).symm), rfl⟩
    · refine s_ci ok rfl ?_
      refine s_goto ok rfl ?_
      refine s_retZ ok rfl (by first | exact Or.inl rfl | exact Or.inr rfl) ⟨congrArg (fun z => some (Value.int (iI z))) (by first | exact (if_pos (by omega)).symm | exact (if_neg (by omega)).symm), rfl⟩
/-- the first m numbers of a person more -/
def sPn (h : Nat → Int → Int) (m : Int) : Nat → Int → Int := fun q b => if q = 60 ∧ 19 + 5 * h 60 6 ≤ b ∧ b < 19 + 5 * h 60 6 + m then h 76 (b - (19 + 5 * h 60 6)) else h q b
theorem sPn_0 {h : Nat → Int → Int} : sPn h 0 = h := by
  funext q b
  exact if_neg (by omega)
theorem sPn_s {h : Nat → Int → Int} {m : Int} (m0 : 0 ≤ m) : zv (sPn h m) 60 (19 + 5 * h 60 6 + m) (h 76 m) = sPn h (m + 1) := by
  funext q b
  rw [zv_eq]
  unfold sPn
  by_cases c : q = 60 ∧ b = 19 + 5 * h 60 6 + m
  · rw [if_pos c, if_pos (by omega), c.2]
    congr 1
    omega
  · rw [if_neg c]
    by_cases c2 : q = 60 ∧ 19 + 5 * h 60 6 ≤ b ∧ b < 19 + 5 * h 60 6 + m
    · rw [if_pos c2, if_pos (by omega)]
    · rw [if_neg c2, if_neg (by omega)]
theorem lp_done {E : zE} {d : Nat} {k : Nat → Nat × Nat} {h : Nat → Int → Int} {r : Nat → Int → Option Nat} {l : Nat → Nat → Int64} {n : Nat} {Q : zQ} {u vv : Option Value} {w9 : Int32} (p60 : 0 ≤ h 60 6) (p61 : h 60 6 < 8) (hX : ∀ v, zGo E (d + 3) M_X12_isDone 0 0 Q 233 ([some (.ref 59), u, vv, some (.int w9), v], [], zJ (k, sPn h 5, r, l, n), 0, 0)) : ∀ c : Nat, ∀ m : Nat, 5 < m + c → m ≤ 5 → zGo E (d + 3) M_X12_isDone 0 0 Q 194 ([some (.ref 59), u, vv, some (.int w9), some (.int (iI ((m : Int))))], [], zJ (k, sPn h (m : Int), r, l, n), 0, 0) := by
  have ok := ok_X12_isDone
  intro c
  induction c with
  | zero =>
    intros
    omega
  | succ c ih =>
    intro m g1 g2
    have e3 := sPn_s (h := h) (m := (m : Int)) (by omega)
    have e6 : sPn h (m : Int) 60 6 = h 60 6 := if_neg (by omega)
    have e76 : sPn h (m : Int) 76 (m : Int) = h 76 (m : Int) := if_neg (by omega)
    refine s_ldI4 ok rfl ?_
    refine s_ci ok rfl ?_
    refine s_c_ge ok rfl (by first | exact hb _ _ | exact ⟨by omega, by omega⟩) (by first | exact hb _ _ | exact ⟨by omega, by omega⟩) (fun c197 => ?_) (fun c197 => ?_)
    · rw [show (m : Int) = 5 by omega]
      exact hX _
    · refine s_ldA0 ok rfl ?_
      refine s_getF ok rfl rfl rfl rfl ?_
      refine s_ci ok rfl ?_
      refine s_ci ok rfl ?_
      refine s_ldA0 ok rfl ?_
      refine s_getF ok rfl rfl rfl rfl ?_
      refine s_ci ok rfl ?_
      refine s_iald ok rfl (by exact rfl) (by exact rfl) (by omega) (by omega) ?_
      rw [e6]
      refine s_mul ok rfl ?_
      refine s_add ok rfl ?_
      refine s_ldI4 ok rfl ?_
      refine s_add ok rfl ?_
      refine s_ldA0 ok rfl ?_
      refine s_getF ok rfl rfl rfl rfl ?_
      refine s_ldI4 ok rfl ?_
      refine s_iald ok rfl (by exact rfl) (by exact rfl) (by omega) (by omega) ?_
      rw [e76]
      refine s_iast ok rfl (by exact rfl) (by exact rfl) (by omega) (by omega) (fun q => by cases q) ?_
      refine s_inc4 ok rfl rfl ?_
      refine s_goto ok rfl ?_
      rw [e3]
      exact ih (m + 1) (by omega) (by omega)
theorem ct_isDone {E : zE} {d : Nat} {k : Nat → Nat × Nat} {h : Nat → Int → Int} {r : Nat → Int → Option Nat} {l : Nat → Nat → Int64} {n : Nat} (hp : pOK (h 60)) {c9 : Int} (c0 : -1 ≤ c9) (c1 : c9 ≤ 255) (hN : ∀ i, 0 ≤ i → i < kN c9 → 0 ≤ h 76 i ∧ h 76 i < 1000) : zCT E (d + 3) M_X12_isDone [.ref 59, .int (iI (c9))] (zJ (k, h, r, l, n)) 0 0 (zVx (.int (iI (dOk (h 60) c9 (h 76)))) (zG k r l n (fun g => (∀ m, ¬ m = 60 → g m = h m) ∧ (dOk (h 60) c9 (h 76) = 1 → g 60 = dPl (h 60) c9 (h 76))))) := by
  have ok := ok_X12_isDone
  refine zCT_of pn_X12_isDone (Nat.le_of_ble_eq_true rfl) ?_
  show zGo _ _ _ _ _ _ 0 ([some (.ref 59), some (.int (iI (c9))), none, none, none], [], _, _, _)
  have kp : 1 ≤ kN c9 := by unfold kN; (repeat split) <;> omega
  have N0 := hN 0 (by omega) (by omega)
  have p0 := hp.1
  have p1 := hp.2.1
  have p2 := hp.2.2.1
  have p3 := hp.2.2.2.1
  have p6 := hp.2.2.2.2.2.2.2.2.2.2.2.2.1
  have p7 := hp.2.2.2.2.2.2.2.2.2.2.2.2.2.1
  refine s_ldA0 ok rfl ?_
  refine s_getF ok rfl rfl rfl rfl ?_
  refine s_ci ok rfl ?_
  refine s_iald ok rfl (by exact rfl) (by exact rfl) (by omega) (by omega) ?_
  refine s_stI2 ok rfl rfl ?_
  refine s_ldA0 ok rfl ?_
  refine s_getF ok rfl rfl rfl rfl ?_
  refine s_ci ok rfl ?_
  refine s_iald ok rfl (by exact rfl) (by exact rfl) (by omega) (by omega) ?_
  refine s_stI3 ok rfl rfl ?_
  refine s_ldI1 ok rfl ?_
  refine s_sw ok rfl ?_
  refine zsw_c (by first | exact hb _ _ | exact ⟨by omega, by omega⟩) (by first | exact hb _ _ | exact ⟨by omega, by omega⟩) (fun c15 => ?_) (fun c15_103 => ?_)
  · refine s_ldA0 ok rfl ?_
    refine s_getF ok rfl rfl rfl rfl ?_
    refine s_ci ok rfl ?_
    refine s_ldI2 ok rfl ?_
    refine s_iast ok rfl (by exact rfl) (by exact rfl) (by omega) (by omega) (fun q => by cases q) ?_
    refine s_ldI2 ok rfl ?_
    refine s_ci ok rfl ?_
    refine s_ci ok rfl ?_
    refine s_callS ok rfl rfl rfl rfl (ct_isIn (by exact ⟨by omega, by omega⟩) ⟨by omega, by omega⟩ ⟨by omega, by omega⟩) ?_
    refine s_retZ ok rfl (by split; exact Or.inr rfl; exact Or.inl rfl) ⟨congrArg (fun z => some (Value.int (iI z))) (by unfold dOk; rw [if_neg (show ¬ c9 = 114 by omega), if_neg (show ¬ c9 = 116 by omega), if_neg (show ¬ c9 = 112 by omega), if_neg (show ¬ c9 = 108 by omega), if_pos (show c9 = 103 by omega)]), _, rfl, (fun m hm => by (repeat rw [zv_other hm]); try rfl), fun _ => (by unfold dPl; (repeat (first | rw [if_pos (by omega)] | rw [if_neg (by omega)])); try rfl)⟩
  refine zsw_c (by first | exact hb _ _ | exact ⟨by omega, by omega⟩) (by first | exact hb _ _ | exact ⟨by omega, by omega⟩) (fun c15 => ?_) (fun c15_104 => ?_)
  · refine s_ldA0 ok rfl ?_
    refine s_getF ok rfl rfl rfl rfl ?_
    refine s_ci ok rfl ?_
    refine s_ldI2 ok rfl ?_
    refine s_iast ok rfl (by exact rfl) (by exact rfl) (by omega) (by omega) (fun q => by cases q) ?_
    refine s_ci ok rfl ?_
    refine s_retZ ok rfl (by first | exact Or.inl rfl | exact Or.inr rfl) ⟨congrArg (fun z => some (Value.int (iI z))) (by unfold dOk; (repeat (first | rw [if_pos (by omega)] | rw [if_neg (by omega)])); try rfl), _, rfl, (fun m hm => by (repeat rw [zv_other hm]); try rfl), fun _ => (by unfold dPl; (repeat (first | rw [if_pos (by omega)] | rw [if_neg (by omega)])); try rfl)⟩
  refine zsw_c (by first | exact hb _ _ | exact ⟨by omega, by omega⟩) (by first | exact hb _ _ | exact ⟨by omega, by omega⟩) (fun c15 => ?_) (fun c15_105 => ?_)
  · refine s_ldA0 ok rfl ?_
    refine s_ldI2 ok rfl ?_
    refine s_callV ok rfl rfl rfl rfl rfl rfl (ct_isTrain hp ⟨by omega, by omega⟩) ?_
    refine s_if_eq ok rfl zif01 (fun c303 => ?_) (fun c303 => ?_)
    · have y303 := zif_f c303
      refine s_ci ok rfl ?_
      refine s_retZ ok rfl (by first | exact Or.inl rfl | exact Or.inr rfl) ⟨congrArg (fun z => some (Value.int (iI z))) (by unfold dOk; (repeat (first | rw [if_pos (by omega)] | rw [if_neg (by omega)])); try rfl), _, rfl, fun m hm => rfl, fun q => absurd q (by unfold dOk; (repeat (first | rw [if_pos (by omega)] | rw [if_neg (by omega)])); omega)⟩
    · have y303 := zif_t c303
      obtain ⟨⟨x0, x1⟩, x2⟩ := zxb4 p2 p3 y303.1 (by omega)
      refine s_ldA0 ok rfl ?_
      refine s_getF ok rfl rfl rfl rfl ?_
      refine s_ci ok rfl ?_
      refine s_dup2 ok rfl ?_
      refine s_iald ok rfl (by exact rfl) (by exact rfl) (by omega) (by omega) ?_
      refine s_ci ok rfl ?_
      refine s_ldI2 ok rfl ?_
      refine s_bin ok rfl (zshl (by omega) (by omega)) ?_
      refine s_bin ok rfl ((zob p2 (by omega) (by omega) (by omega)).2.1) ?_
      refine s_iast ok rfl (by exact rfl) (by exact rfl) (by omega) (by omega) (fun q => by cases q) ?_
      refine s_ci ok rfl ?_
      refine s_retZ ok rfl (by first | exact Or.inl rfl | exact Or.inr rfl) ⟨congrArg (fun z => some (Value.int (iI z))) (by unfold dOk; (repeat (first | rw [if_pos (by omega)] | rw [if_neg (by omega)])); try rfl), _, rfl, (fun m hm => by (repeat rw [zv_other hm]); try rfl), fun _ => (by unfold dPl; (repeat (first | rw [if_pos (by omega)] | rw [if_neg (by omega)])); try rfl)⟩
  refine zsw_c (by first | exact hb _ _ | exact ⟨by omega, by omega⟩) (by first | exact hb _ _ | exact ⟨by omega, by omega⟩) (fun c15 => ?_) (fun c15_106 => ?_)
  · refine s_ldA0 ok rfl ?_
    refine s_ldI2 ok rfl ?_
    refine s_callV ok rfl rfl rfl rfl rfl rfl (ct_isTrain hp ⟨by omega, by omega⟩) ?_
    refine s_if_eq ok rfl zif01 (fun c303 => ?_) (fun c303 => ?_)
    · have y303 := zif_f c303
      refine s_ci ok rfl ?_
      refine s_retZ ok rfl (by first | exact Or.inl rfl | exact Or.inr rfl) ⟨congrArg (fun z => some (Value.int (iI z))) (by unfold dOk; (repeat (first | rw [if_pos (by omega)] | rw [if_neg (by omega)])); try rfl), _, rfl, fun m hm => rfl, fun q => absurd q (by unfold dOk; (repeat (first | rw [if_pos (by omega)] | rw [if_neg (by omega)])); omega)⟩
    · have y303 := zif_t c303
      obtain ⟨⟨x0, x1⟩, x2⟩ := zxb4 p2 p3 y303.1 (by omega)
      refine s_ldA0 ok rfl ?_
      refine s_getF ok rfl rfl rfl rfl ?_
      refine s_ci ok rfl ?_
      refine s_dup2 ok rfl ?_
      refine s_iald ok rfl (by exact rfl) (by exact rfl) (by omega) (by omega) ?_
      refine s_ci ok rfl ?_
      refine s_ldI2 ok rfl ?_
      refine s_bin ok rfl (zshl (by omega) (by omega)) ?_
      refine s_bin ok rfl ((zob p2 (by omega) (by omega) (by omega)).2.1) ?_
      refine s_iast ok rfl (by exact rfl) (by exact rfl) (by omega) (by omega) (fun q => by cases q) ?_
      refine s_ci ok rfl ?_
      refine s_retZ ok rfl (by first | exact Or.inl rfl | exact Or.inr rfl) ⟨congrArg (fun z => some (Value.int (iI z))) (by unfold dOk; (repeat (first | rw [if_pos (by omega)] | rw [if_neg (by omega)])); try rfl), _, rfl, (fun m hm => by (repeat rw [zv_other hm]); try rfl), fun _ => (by unfold dPl; (repeat (first | rw [if_pos (by omega)] | rw [if_neg (by omega)])); try rfl)⟩
  refine zsw_c (by first | exact hb _ _ | exact ⟨by omega, by omega⟩) (by first | exact hb _ _ | exact ⟨by omega, by omega⟩) (fun c15 => ?_) (fun c15_107 => ?_)
  · refine s_ldA0 ok rfl ?_
    refine s_ldI2 ok rfl ?_
    refine s_callV ok rfl rfl rfl rfl rfl rfl (ct_isTrain hp ⟨by omega, by omega⟩) ?_
    refine s_if_eq ok rfl zif01 (fun c303 => ?_) (fun c303 => ?_)
    · have y303 := zif_f c303
      refine s_ci ok rfl ?_
      refine s_retZ ok rfl (by first | exact Or.inl rfl | exact Or.inr rfl) ⟨congrArg (fun z => some (Value.int (iI z))) (by unfold dOk; (repeat (first | rw [if_pos (by omega)] | rw [if_neg (by omega)])); try rfl), _, rfl, fun m hm => rfl, fun q => absurd q (by unfold dOk; (repeat (first | rw [if_pos (by omega)] | rw [if_neg (by omega)])); omega)⟩
    · have y303 := zif_t c303
      obtain ⟨⟨x0, x1⟩, x2⟩ := zxb4 p2 p3 y303.1 (by omega)
      refine s_ldA0 ok rfl ?_
      refine s_getF ok rfl rfl rfl rfl ?_
      refine s_ci ok rfl ?_
      refine s_dup2 ok rfl ?_
      refine s_iald ok rfl (by exact rfl) (by exact rfl) (by omega) (by omega) ?_
      refine s_ci ok rfl ?_
      refine s_ldI2 ok rfl ?_
      refine s_bin ok rfl (zshl (by omega) (by omega)) ?_
      refine s_bin ok rfl ((zob p2 (by omega) (by omega) (by omega)).2.1) ?_
      refine s_iast ok rfl (by exact rfl) (by exact rfl) (by omega) (by omega) (fun q => by cases q) ?_
      refine s_ci ok rfl ?_
      refine s_retZ ok rfl (by first | exact Or.inl rfl | exact Or.inr rfl) ⟨congrArg (fun z => some (Value.int (iI z))) (by unfold dOk; (repeat (first | rw [if_pos (by omega)] | rw [if_neg (by omega)])); try rfl), _, rfl, (fun m hm => by (repeat rw [zv_other hm]); try rfl), fun _ => (by unfold dPl; (repeat (first | rw [if_pos (by omega)] | rw [if_neg (by omega)])); try rfl)⟩
  refine zsw_c (by first | exact hb _ _ | exact ⟨by omega, by omega⟩) (by first | exact hb _ _ | exact ⟨by omega, by omega⟩) (fun c15 => ?_) (fun c15_108 => ?_)
  · refine s_ldA0 ok rfl ?_
    refine s_getF ok rfl rfl rfl rfl ?_
    refine s_ci ok rfl ?_
    refine s_ldI2 ok rfl ?_
    refine s_iast ok rfl (by exact rfl) (by exact rfl) (by omega) (by omega) (fun q => by cases q) ?_
    refine s_ldI2 ok rfl ?_
    refine s_ci ok rfl ?_
    refine s_c_gt ok rfl (by first | exact hb _ _ | exact ⟨by omega, by omega⟩) (by first | exact hb _ _ | exact ⟨by omega, by omega⟩) (fun c256 => ?_) (fun c256 => ?_)
    · refine s_ci ok rfl ?_
      refine s_retZ ok rfl (by first | exact Or.inl rfl | exact Or.inr rfl) ⟨congrArg (fun z => some (Value.int (iI z))) (by unfold dOk; (repeat (first | rw [if_pos (by omega)] | rw [if_neg (by omega)])); try rfl), _, rfl, (fun m hm => by (repeat rw [zv_other hm]); try rfl), fun _ => (by unfold dPl; (repeat (first | rw [if_pos (by omega)] | rw [if_neg (by omega)])); try rfl)⟩
    · refine s_ci ok rfl ?_
      refine s_goto ok rfl ?_
      refine s_retZ ok rfl (by first | exact Or.inl rfl | exact Or.inr rfl) ⟨congrArg (fun z => some (Value.int (iI z))) (by unfold dOk; (repeat (first | rw [if_pos (by omega)] | rw [if_neg (by omega)])); try rfl), _, rfl, (fun m hm => by (repeat rw [zv_other hm]); try rfl), fun _ => (by unfold dPl; (repeat (first | rw [if_pos (by omega)] | rw [if_neg (by omega)])); try rfl)⟩
  refine zsw_c (by first | exact hb _ _ | exact ⟨by omega, by omega⟩) (by first | exact hb _ _ | exact ⟨by omega, by omega⟩) (fun c15 => ?_) (fun c15_109 => ?_)
  · refine s_ldA0 ok rfl ?_
    refine s_ldI2 ok rfl ?_
    refine s_callV ok rfl rfl rfl rfl rfl rfl (ct_isTrain hp ⟨by omega, by omega⟩) ?_
    refine s_if_eq ok rfl zif01 (fun c303 => ?_) (fun c303 => ?_)
    · have y303 := zif_f c303
      refine s_ci ok rfl ?_
      refine s_retZ ok rfl (by first | exact Or.inl rfl | exact Or.inr rfl) ⟨congrArg (fun z => some (Value.int (iI z))) (by unfold dOk; (repeat (first | rw [if_pos (by omega)] | rw [if_neg (by omega)])); try rfl), _, rfl, fun m hm => rfl, fun q => absurd q (by unfold dOk; (repeat (first | rw [if_pos (by omega)] | rw [if_neg (by omega)])); omega)⟩
    · have y303 := zif_t c303
      obtain ⟨⟨x0, x1⟩, x2⟩ := zxb4 p2 p3 y303.1 (by omega)
      refine s_ldA0 ok rfl ?_
      refine s_getF ok rfl rfl rfl rfl ?_
      refine s_ci ok rfl ?_
      refine s_dup2 ok rfl ?_
      refine s_iald ok rfl (by exact rfl) (by exact rfl) (by omega) (by omega) ?_
      refine s_ci ok rfl ?_
      refine s_ldI2 ok rfl ?_
      refine s_bin ok rfl (zshl (by omega) (by omega)) ?_
      refine s_bin ok rfl ((zob p2 (by omega) (by omega) (by omega)).2.1) ?_
      refine s_iast ok rfl (by exact rfl) (by exact rfl) (by omega) (by omega) (fun q => by cases q) ?_
      refine s_ci ok rfl ?_
      refine s_retZ ok rfl (by first | exact Or.inl rfl | exact Or.inr rfl) ⟨congrArg (fun z => some (Value.int (iI z))) (by unfold dOk; (repeat (first | rw [if_pos (by omega)] | rw [if_neg (by omega)])); try rfl), _, rfl, (fun m hm => by (repeat rw [zv_other hm]); try rfl), fun _ => (by unfold dPl; (repeat (first | rw [if_pos (by omega)] | rw [if_neg (by omega)])); try rfl)⟩
  refine zsw_c (by first | exact hb _ _ | exact ⟨by omega, by omega⟩) (by first | exact hb _ _ | exact ⟨by omega, by omega⟩) (fun c15 => ?_) (fun c15_110 => ?_)
  · refine s_ldA0 ok rfl ?_
    refine s_ldI2 ok rfl ?_
    refine s_callV ok rfl rfl rfl rfl rfl rfl (ct_isTrain hp ⟨by omega, by omega⟩) ?_
    refine s_if_eq ok rfl zif01 (fun c303 => ?_) (fun c303 => ?_)
    · have y303 := zif_f c303
      refine s_ci ok rfl ?_
      refine s_retZ ok rfl (by first | exact Or.inl rfl | exact Or.inr rfl) ⟨congrArg (fun z => some (Value.int (iI z))) (by unfold dOk; (repeat (first | rw [if_pos (by omega)] | rw [if_neg (by omega)])); try rfl), _, rfl, fun m hm => rfl, fun q => absurd q (by unfold dOk; (repeat (first | rw [if_pos (by omega)] | rw [if_neg (by omega)])); omega)⟩
    · have y303 := zif_t c303
      obtain ⟨⟨x0, x1⟩, x2⟩ := zxb4 p2 p3 y303.1 (by omega)
      refine s_ldA0 ok rfl ?_
      refine s_getF ok rfl rfl rfl rfl ?_
      refine s_ci ok rfl ?_
      refine s_dup2 ok rfl ?_
      refine s_iald ok rfl (by exact rfl) (by exact rfl) (by omega) (by omega) ?_
      refine s_ci ok rfl ?_
      refine s_ldI2 ok rfl ?_
      refine s_bin ok rfl (zshl (by omega) (by omega)) ?_
      refine s_bin ok rfl ((zob p2 (by omega) (by omega) (by omega)).2.1) ?_
      refine s_iast ok rfl (by exact rfl) (by exact rfl) (by omega) (by omega) (fun q => by cases q) ?_
      refine s_ci ok rfl ?_
      refine s_retZ ok rfl (by first | exact Or.inl rfl | exact Or.inr rfl) ⟨congrArg (fun z => some (Value.int (iI z))) (by unfold dOk; (repeat (first | rw [if_pos (by omega)] | rw [if_neg (by omega)])); try rfl), _, rfl, (fun m hm => by (repeat rw [zv_other hm]); try rfl), fun _ => (by unfold dPl; (repeat (first | rw [if_pos (by omega)] | rw [if_neg (by omega)])); try rfl)⟩
  refine zsw_c (by first | exact hb _ _ | exact ⟨by omega, by omega⟩) (by first | exact hb _ _ | exact ⟨by omega, by omega⟩) (fun c15 => ?_) (fun c15_111 => ?_)
  · refine s_ldA0 ok rfl ?_
    refine s_ldI2 ok rfl ?_
    refine s_callV ok rfl rfl rfl rfl rfl rfl (ct_isTrain hp ⟨by omega, by omega⟩) ?_
    refine s_if_eq ok rfl zif01 (fun c303 => ?_) (fun c303 => ?_)
    · have y303 := zif_f c303
      refine s_ci ok rfl ?_
      refine s_retZ ok rfl (by first | exact Or.inl rfl | exact Or.inr rfl) ⟨congrArg (fun z => some (Value.int (iI z))) (by unfold dOk; (repeat (first | rw [if_pos (by omega)] | rw [if_neg (by omega)])); try rfl), _, rfl, fun m hm => rfl, fun q => absurd q (by unfold dOk; (repeat (first | rw [if_pos (by omega)] | rw [if_neg (by omega)])); omega)⟩
    · have y303 := zif_t c303
      obtain ⟨⟨x0, x1⟩, x2⟩ := zxb4 p2 p3 y303.1 (by omega)
      refine s_ldA0 ok rfl ?_
      refine s_getF ok rfl rfl rfl rfl ?_
      refine s_ci ok rfl ?_
      refine s_dup2 ok rfl ?_
      refine s_iald ok rfl (by exact rfl) (by exact rfl) (by omega) (by omega) ?_
      refine s_ci ok rfl ?_
      refine s_ldI2 ok rfl ?_
      refine s_bin ok rfl (zshl (by omega) (by omega)) ?_
      refine s_bin ok rfl ((zob p2 (by omega) (by omega) (by omega)).2.1) ?_
      refine s_iast ok rfl (by exact rfl) (by exact rfl) (by omega) (by omega) (fun q => by cases q) ?_
      refine s_ci ok rfl ?_
      refine s_retZ ok rfl (by first | exact Or.inl rfl | exact Or.inr rfl) ⟨congrArg (fun z => some (Value.int (iI z))) (by unfold dOk; (repeat (first | rw [if_pos (by omega)] | rw [if_neg (by omega)])); try rfl), _, rfl, (fun m hm => by (repeat rw [zv_other hm]); try rfl), fun _ => (by unfold dPl; (repeat (first | rw [if_pos (by omega)] | rw [if_neg (by omega)])); try rfl)⟩
  refine zsw_c (by first | exact hb _ _ | exact ⟨by omega, by omega⟩) (by first | exact hb _ _ | exact ⟨by omega, by omega⟩) (fun c15 => ?_) (fun c15_112 => ?_)
  · have kq : kN c9 = 5 := by unfold kN; (repeat (first | rw [if_pos (by omega)] | rw [if_neg (by omega)]))
    have N1 := hN 1 (by omega) (by omega)
    have N2 := hN 2 (by omega) (by omega)
    have N3 := hN 3 (by omega) (by omega)
    have N4 := hN 4 (by omega) (by omega)
    refine s_ldI2 ok rfl ?_
    refine s_ci ok rfl ?_
    refine s_c_ge ok rfl (by first | exact hb _ _ | exact ⟨by omega, by omega⟩) (by first | exact hb _ _ | exact ⟨by omega, by omega⟩) (fun c143 => ?_) (fun c143 => ?_)
    · try have y162 := zif_t c162
      try have y162 := zif_f c162
      refine s_ci ok rfl ?_
      refine s_retZ ok rfl (by first | exact Or.inl rfl | exact Or.inr rfl) ⟨congrArg (fun z => some (Value.int (iI z))) (by unfold dOk; (repeat (first | rw [if_pos (by omega)] | rw [if_neg (by omega)])); try rfl), _, rfl, fun m hm => rfl, fun q => absurd q (by unfold dOk; (repeat (first | rw [if_pos (by omega)] | rw [if_neg (by omega)])); omega)⟩
    · refine s_ldA0 ok rfl ?_
      refine s_ldA0 ok rfl ?_
      refine s_getF ok rfl rfl rfl rfl ?_
      refine s_ci ok rfl ?_
      refine s_iald ok rfl (by exact rfl) (by exact rfl) (by omega) (by omega) ?_
      refine s_ldA0 ok rfl ?_
      refine s_getF ok rfl rfl rfl rfl ?_
      refine s_ci ok rfl ?_
      refine s_iald ok rfl (by exact rfl) (by exact rfl) (by omega) (by omega) ?_
      refine s_callV ok rfl rfl rfl rfl rfl rfl (ct_areStops ⟨by omega, by omega⟩ ⟨by omega, by omega⟩) ?_
      refine s_if_eq ok rfl zif01 (fun c162 => ?_) (fun c162 => ?_)
      · try have y162 := zif_t c162
        try have y162 := zif_f c162
        refine s_ci ok rfl ?_
        refine s_retZ ok rfl (by first | exact Or.inl rfl | exact Or.inr rfl) ⟨congrArg (fun z => some (Value.int (iI z))) (by unfold dOk; (repeat (first | rw [if_pos (by omega)] | rw [if_neg (by omega)])); try rfl), _, rfl, fun m hm => rfl, fun q => absurd q (by unfold dOk; (repeat (first | rw [if_pos (by omega)] | rw [if_neg (by omega)])); omega)⟩
      · refine s_ldA0 ok rfl ?_
        refine s_getF ok rfl rfl rfl rfl ?_
        refine s_ci ok rfl ?_
        refine s_iald ok rfl (by exact rfl) (by exact rfl) (by omega) (by omega) ?_
        refine s_ci ok rfl ?_
        refine s_c_gt ok rfl (by first | exact hb _ _ | exact ⟨by omega, by omega⟩) (by first | exact hb _ _ | exact ⟨by omega, by omega⟩) (fun c174 => ?_) (fun c174 => ?_)
        · try have y162 := zif_t c162
          try have y162 := zif_f c162
          refine s_ci ok rfl ?_
          refine s_retZ ok rfl (by first | exact Or.inl rfl | exact Or.inr rfl) ⟨congrArg (fun z => some (Value.int (iI z))) (by unfold dOk; (repeat (first | rw [if_pos (by omega)] | rw [if_neg (by omega)])); try rfl), _, rfl, fun m hm => rfl, fun q => absurd q (by unfold dOk; (repeat (first | rw [if_pos (by omega)] | rw [if_neg (by omega)])); omega)⟩
        · refine s_ldA0 ok rfl ?_
          refine s_getF ok rfl rfl rfl rfl ?_
          refine s_ci ok rfl ?_
          refine s_iald ok rfl (by exact rfl) (by exact rfl) (by omega) (by omega) ?_
          refine s_ci ok rfl ?_
          refine s_c_eq ok rfl (by first | exact hb _ _ | exact ⟨by omega, by omega⟩) (by first | exact hb _ _ | exact ⟨by omega, by omega⟩) (fun c186 => ?_) (fun c186 => ?_)
          · try have y162 := zif_t c162
            try have y162 := zif_f c162
            refine s_ci ok rfl ?_
            refine s_retZ ok rfl (by first | exact Or.inl rfl | exact Or.inr rfl) ⟨congrArg (fun z => some (Value.int (iI z))) (by unfold dOk; (repeat (first | rw [if_pos (by omega)] | rw [if_neg (by omega)])); try rfl), _, rfl, fun m hm => rfl, fun q => absurd q (by unfold dOk; (repeat (first | rw [if_pos (by omega)] | rw [if_neg (by omega)])); omega)⟩
          · have y162 := zif_t c162
            refine s_ci ok rfl ?_
            refine s_stI4 ok rfl rfl ?_
            refine zgo_eq (c' := ([some (.ref 59), some (.int (iI c9)), some (.int (iI (h 76 0))), some (.int (iI (h 76 1))), some (.int (iI ((0 : Nat) : Int)))], [], zJ (k, sPn h ((0 : Nat) : Int), r, l, n), 0, 0)) (by rw [show ((0 : Nat) : Int) = 0 from rfl, sPn_0]) ?_
            refine lp_done (E := E) (d := d) (k := k) (r := r) (l := l) (n := n) (h := h) (by omega) (by omega) (fun v9 => ?_) 6 0 (by omega) (by omega)
            have e6 : sPn h 5 60 6 = h 60 6 := if_neg (by omega)
            have yq : zv (sPn h 5) 60 6 (h 60 6 + 1) 60 = fun j => if j = 6 then h 60 6 + 1 else if 19 + 5 * h 60 6 ≤ j ∧ j < 19 + 5 * h 60 6 + 5 then h 76 (j - (19 + 5 * h 60 6)) else h 60 j := by
              funext j
              rw [zv_eq]
              by_cases e : j = 6
              · rw [if_pos ⟨rfl, e⟩, if_pos e]
              · rw [if_neg (fun q => e q.2), if_neg e]
                unfold sPn
                by_cases q : 19 + 5 * h 60 6 ≤ j ∧ j < 19 + 5 * h 60 6 + 5
                · rw [if_pos ⟨rfl, q⟩, if_pos q]
                · rw [if_neg (fun z => q z.2), if_neg q]
            refine s_ldA0 ok rfl ?_
            refine s_getF ok rfl rfl rfl rfl ?_
            refine s_ci ok rfl ?_
            refine s_dup2 ok rfl ?_
            refine s_iald ok rfl (by exact rfl) (by exact rfl) (by omega) (by omega) ?_
            rw [e6]
            refine s_ci ok rfl ?_
            refine s_add ok rfl ?_
            refine s_iast ok rfl (by exact rfl) (by exact rfl) (by omega) (by omega) (fun q => by cases q) ?_
            refine s_ci ok rfl ?_
            refine s_retZ ok rfl (by first | exact Or.inl rfl | exact Or.inr rfl) ⟨congrArg (fun z => some (Value.int (iI z))) (by unfold dOk; (repeat (first | rw [if_pos (by omega)] | rw [if_neg (by omega)])); try rfl), _, rfl, (fun m hm => by rw [zv_other hm]; exact funext fun b => if_neg (fun q => hm q.1)), fun _ => (by unfold dPl; (repeat (first | rw [if_pos (by omega)] | rw [if_neg (by omega)])); exact yq)⟩
  refine zsw_c (by first | exact hb _ _ | exact ⟨by omega, by omega⟩) (by first | exact hb _ _ | exact ⟨by omega, by omega⟩) (fun c15 => ?_) (fun c15_113 => ?_)
  · refine s_ldA0 ok rfl ?_
    refine s_ldI2 ok rfl ?_
    refine s_callV ok rfl rfl rfl rfl rfl rfl (ct_isTrain hp ⟨by omega, by omega⟩) ?_
    refine s_if_eq ok rfl zif01 (fun c303 => ?_) (fun c303 => ?_)
    · have y303 := zif_f c303
      refine s_ci ok rfl ?_
      refine s_retZ ok rfl (by first | exact Or.inl rfl | exact Or.inr rfl) ⟨congrArg (fun z => some (Value.int (iI z))) (by unfold dOk; (repeat (first | rw [if_pos (by omega)] | rw [if_neg (by omega)])); try rfl), _, rfl, fun m hm => rfl, fun q => absurd q (by unfold dOk; (repeat (first | rw [if_pos (by omega)] | rw [if_neg (by omega)])); omega)⟩
    · have y303 := zif_t c303
      obtain ⟨⟨x0, x1⟩, x2⟩ := zxb4 p2 p3 y303.1 (by omega)
      refine s_ldA0 ok rfl ?_
      refine s_getF ok rfl rfl rfl rfl ?_
      refine s_ci ok rfl ?_
      refine s_dup2 ok rfl ?_
      refine s_iald ok rfl (by exact rfl) (by exact rfl) (by omega) (by omega) ?_
      refine s_ci ok rfl ?_
      refine s_ldI2 ok rfl ?_
      refine s_bin ok rfl (zshl (by omega) (by omega)) ?_
      refine s_bin ok rfl ((zob p2 (by omega) (by omega) (by omega)).2.1) ?_
      refine s_iast ok rfl (by exact rfl) (by exact rfl) (by omega) (by omega) (fun q => by cases q) ?_
      refine s_ci ok rfl ?_
      refine s_retZ ok rfl (by first | exact Or.inl rfl | exact Or.inr rfl) ⟨congrArg (fun z => some (Value.int (iI z))) (by unfold dOk; (repeat (first | rw [if_pos (by omega)] | rw [if_neg (by omega)])); try rfl), _, rfl, (fun m hm => by (repeat rw [zv_other hm]); try rfl), fun _ => (by unfold dPl; (repeat (first | rw [if_pos (by omega)] | rw [if_neg (by omega)])); try rfl)⟩
  refine zsw_c (by first | exact hb _ _ | exact ⟨by omega, by omega⟩) (by first | exact hb _ _ | exact ⟨by omega, by omega⟩) (fun c15 => ?_) (fun c15_114 => ?_)
  · have kq : kN c9 = 2 := by unfold kN; (repeat (first | rw [if_pos (by omega)] | rw [if_neg (by omega)]))
    have N1 := hN 1 (by omega) (by omega)
    refine s_ldI2 ok rfl ?_
    refine s_ci ok rfl ?_
    refine s_c_ge ok rfl (by first | exact hb _ _ | exact ⟨by omega, by omega⟩) (by first | exact hb _ _ | exact ⟨by omega, by omega⟩) (fun c86 => ?_) (fun c86 => ?_)
    · try have y96 := zif_f c96
      refine s_ci ok rfl ?_
      refine s_retZ ok rfl (by first | exact Or.inl rfl | exact Or.inr rfl) ⟨congrArg (fun z => some (Value.int (iI z))) (by unfold dOk; (repeat (first | rw [if_pos (by omega)] | rw [if_neg (by omega)])); try rfl), _, rfl, fun m hm => rfl, fun q => absurd q (by unfold dOk; (repeat (first | rw [if_pos (by omega)] | rw [if_neg (by omega)])); omega)⟩
    · refine s_ldI3 ok rfl ?_
      refine s_ci ok rfl ?_
      refine s_ci ok rfl ?_
      refine s_callS ok rfl rfl rfl rfl (ct_isIn (by exact ⟨by omega, by omega⟩) ⟨by omega, by omega⟩ ⟨by omega, by omega⟩) ?_
      refine s_if_eq ok rfl zif01 (fun c96 => ?_) (fun c96 => ?_)
      · try have y96 := zif_f c96
        refine s_ci ok rfl ?_
        refine s_retZ ok rfl (by first | exact Or.inl rfl | exact Or.inr rfl) ⟨congrArg (fun z => some (Value.int (iI z))) (by unfold dOk; (repeat (first | rw [if_pos (by omega)] | rw [if_neg (by omega)])); try rfl), _, rfl, fun m hm => rfl, fun q => absurd q (by unfold dOk; (repeat (first | rw [if_pos (by omega)] | rw [if_neg (by omega)])); omega)⟩
      · have y96 := zif_t c96
        refine s_ldA0 ok rfl ?_
        refine s_getF ok rfl rfl rfl rfl ?_
        refine s_ci ok rfl ?_
        refine s_ldI2 ok rfl ?_
        refine s_add ok rfl ?_
        refine s_ldI3 ok rfl ?_
        refine s_iast ok rfl (by exact rfl) (by exact rfl) (by omega) (by omega) (fun q => by cases q) ?_
        refine s_ci ok rfl ?_
        refine s_retZ ok rfl (by first | exact Or.inl rfl | exact Or.inr rfl) ⟨congrArg (fun z => some (Value.int (iI z))) (by unfold dOk; (repeat (first | rw [if_pos (by omega)] | rw [if_neg (by omega)])); try rfl), _, rfl, (fun m hm => by (repeat rw [zv_other hm]); try rfl), fun _ => (by unfold dPl; (repeat (first | rw [if_pos (by omega)] | rw [if_neg (by omega)])); try rfl)⟩
  refine zsw_c (by first | exact hb _ _ | exact ⟨by omega, by omega⟩) (by first | exact hb _ _ | exact ⟨by omega, by omega⟩) (fun c15 => ?_) (fun c15_115 => ?_)
  · refine s_ldA0 ok rfl ?_
    refine s_getF ok rfl rfl rfl rfl ?_
    refine s_ci ok rfl ?_
    refine s_ldI2 ok rfl ?_
    refine s_iast ok rfl (by exact rfl) (by exact rfl) (by omega) (by omega) (fun q => by cases q) ?_
    refine s_ci ok rfl ?_
    refine s_retZ ok rfl (by first | exact Or.inl rfl | exact Or.inr rfl) ⟨congrArg (fun z => some (Value.int (iI z))) (by unfold dOk; (repeat (first | rw [if_pos (by omega)] | rw [if_neg (by omega)])); try rfl), _, rfl, (fun m hm => by (repeat rw [zv_other hm]); try rfl), fun _ => (by unfold dPl; (repeat (first | rw [if_pos (by omega)] | rw [if_neg (by omega)])); try rfl)⟩
  refine zsw_c (by first | exact hb _ _ | exact ⟨by omega, by omega⟩) (by first | exact hb _ _ | exact ⟨by omega, by omega⟩) (fun c15 => ?_) (fun c15_116 => ?_)
  · have kq : kN c9 = 2 := by unfold kN; (repeat (first | rw [if_pos (by omega)] | rw [if_neg (by omega)]))
    have N1 := hN 1 (by omega) (by omega)
    refine s_ldI2 ok rfl ?_
    refine s_ci ok rfl ?_
    refine s_c_gt ok rfl (by first | exact hb _ _ | exact ⟨by omega, by omega⟩) (by first | exact hb _ _ | exact ⟨by omega, by omega⟩) (fun c117 => ?_) (fun c117 => ?_)
    · refine s_ci ok rfl ?_
      refine s_retZ ok rfl (by first | exact Or.inl rfl | exact Or.inr rfl) ⟨congrArg (fun z => some (Value.int (iI z))) (by unfold dOk; (repeat (first | rw [if_pos (by omega)] | rw [if_neg (by omega)])); try rfl), _, rfl, fun m hm => rfl, fun q => absurd q (by unfold dOk; (repeat (first | rw [if_pos (by omega)] | rw [if_neg (by omega)])); omega)⟩
    · refine s_ldA0 ok rfl ?_
      refine s_getF ok rfl rfl rfl rfl ?_
      refine s_ci ok rfl ?_
      refine s_iald ok rfl (by exact rfl) (by exact rfl) (by omega) (by omega) ?_
      refine s_ci ok rfl ?_
      refine s_c_eq ok rfl (by first | exact hb _ _ | exact ⟨by omega, by omega⟩) (by first | exact hb _ _ | exact ⟨by omega, by omega⟩) (fun c127 => ?_) (fun c127 => ?_)
      · refine s_ci ok rfl ?_
        refine s_retZ ok rfl (by first | exact Or.inl rfl | exact Or.inr rfl) ⟨congrArg (fun z => some (Value.int (iI z))) (by unfold dOk; (repeat (first | rw [if_pos (by omega)] | rw [if_neg (by omega)])); try rfl), _, rfl, fun m hm => rfl, fun q => absurd q (by unfold dOk; (repeat (first | rw [if_pos (by omega)] | rw [if_neg (by omega)])); omega)⟩
      · refine s_ldA0 ok rfl ?_
        refine s_ldI2 ok rfl ?_
        refine s_ldI3 ok rfl ?_
        refine s_callVv ok rfl rfl rfl rfl rfl rfl (ct_addsTrain hp.1 (by omega)) ?_
        refine s_ci ok rfl ?_
        refine s_retZ ok rfl (by first | exact Or.inl rfl | exact Or.inr rfl) ⟨congrArg (fun z => some (Value.int (iI z))) (by unfold dOk; (repeat (first | rw [if_pos (by omega)] | rw [if_neg (by omega)])); try rfl), _, rfl, (fun m hm => by unfold sAT; (repeat rw [zv_other hm]); try rfl), fun _ => (by unfold dPl; (repeat (first | rw [if_pos (by omega)] | rw [if_neg (by omega)])); try rfl)⟩
  show zGo _ _ _ _ _ _ 298 _
  refine s_ldA0 ok rfl ?_
  refine s_ldI2 ok rfl ?_
  refine s_callV ok rfl rfl rfl rfl rfl rfl (ct_isTrain hp ⟨by omega, by omega⟩) ?_
  refine s_if_eq ok rfl zif01 (fun c303 => ?_) (fun c303 => ?_)
  · have y303 := zif_f c303
    refine s_ci ok rfl ?_
    refine s_retZ ok rfl (by first | exact Or.inl rfl | exact Or.inr rfl) ⟨congrArg (fun z => some (Value.int (iI z))) (by unfold dOk; (repeat (first | rw [if_pos (by omega)] | rw [if_neg (by omega)])); try rfl), _, rfl, fun m hm => rfl, fun q => absurd q (by unfold dOk; (repeat (first | rw [if_pos (by omega)] | rw [if_neg (by omega)])); omega)⟩
  · have y303 := zif_t c303
    obtain ⟨⟨x0, x1⟩, x2⟩ := zxb4 p2 p3 y303.1 (by omega)
    refine s_ldA0 ok rfl ?_
    refine s_getF ok rfl rfl rfl rfl ?_
    refine s_ci ok rfl ?_
    refine s_dup2 ok rfl ?_
    refine s_iald ok rfl (by exact rfl) (by exact rfl) (by omega) (by omega) ?_
    refine s_ci ok rfl ?_
    refine s_ldI2 ok rfl ?_
    refine s_bin ok rfl (zshl (by omega) (by omega)) ?_
    refine s_bin ok rfl ((zob p2 (by omega) (by omega) (by omega)).2.1) ?_
    refine s_iast ok rfl (by exact rfl) (by exact rfl) (by omega) (by omega) (fun q => by cases q) ?_
    refine s_ci ok rfl ?_
    refine s_retZ ok rfl (by first | exact Or.inl rfl | exact Or.inr rfl) ⟨congrArg (fun z => some (Value.int (iI z))) (by unfold dOk; (repeat (first | rw [if_pos (by omega)] | rw [if_neg (by omega)])); try rfl), _, rfl, (fun m hm => by (repeat rw [zv_other hm]); try rfl), fun _ => (by unfold dPl; (repeat (first | rw [if_pos (by omega)] | rw [if_neg (by omega)])); try rfl)⟩
