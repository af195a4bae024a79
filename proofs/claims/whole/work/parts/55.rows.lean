/-! rows -/
/-- w is a row of the sort so, its cells are the array ar of L ints -/
def rw_ (k : Nat → Nat × Nat) (h : Nat → Int → Int) (r : Nat → Int → Option Nat) (w ar L : Nat) (so : Int) : Prop := zkF k w = (4, 2) ∧ h w 0 = so ∧ zrF r w 1 = some ar ∧ zkF k ar = (16, L) ∧ L ≤ 100 ∧ (0 ≤ so ∧ so ≤ 2)
theorem ct_rsize {E : zE} {d : Nat} {k : Nat → Nat × Nat} {h : Nat → Int → Int} {r : Nat → Int → Option Nat} {l : Nat → Nat → Int64} {n : Nat} {w ar L : Nat} {so : Int} (hw : rw_ k h r w ar L so) : zCT E d M_X4_size [.ref w] (zJ (k, h, r, l, n)) 0 0 (zV (.int (iI ((L : Int)))) (zJ (k, h, r, l, n))) := by
  have ok := ok_X4_size
  refine zCT_of pn_X4_size (Nat.le_of_ble_eq_true rfl) ?_
  show zGo _ _ _ _ _ _ 0 ([some (.ref w)], [], _, _, _)
  obtain ⟨hq, hs, hv, ha, hl, s0, s1⟩ := hw
  have hL : Nat.ble L 100000 = true := Nat.ble_eq_true_of_le (by omega)
  refine s_ldA0 ok rfl ?_
  refine s_getF ok rfl hq rfl hv ?_
  refine s_alen ok rfl ha ?_
  refine s_retI ok rfl ⟨congrArg (fun z => some (Value.int (iI z))) (by first | rfl | omega | (simp only []; omega)), rfl⟩
theorem ct_rhas {E : zE} {d : Nat} {k : Nat → Nat × Nat} {h : Nat → Int → Int} {r : Nat → Int → Option Nat} {l : Nat → Nat → Int64} {n : Nat} {w ar L : Nat} {so : Int} (hw : rw_ k h r w ar L so) {a : Int} (za : zb a) : zCT E d M_X4_has [.ref w, .int (iI (a))] (zJ (k, h, r, l, n)) 0 0 (zV (.int (iI (if 0 ≤ a ∧ a < L then 1 else 0))) (zJ (k, h, r, l, n))) := by
  have ok := ok_X4_has
  refine zCT_of pn_X4_has (Nat.le_of_ble_eq_true rfl) ?_
  show zGo _ _ _ _ _ _ 0 ([some (.ref w), some (.int (iI (a)))], [], _, _, _)
  obtain ⟨hq, hs, hv, ha, hl, s0, s1⟩ := hw
  have hL : Nat.ble L 100000 = true := Nat.ble_eq_true_of_le (by omega)
  refine s_ldI1 ok rfl ?_
  refine s_if_lt ok rfl za (fun c1 => ?_) (fun c1 => ?_)
  · refine s_ci ok rfl ?_
    refine s_retZ ok rfl (by first | exact Or.inl rfl | exact Or.inr rfl) ⟨congrArg (fun z => some (Value.int (iI z))) (by first | exact (if_pos (by omega)).symm | exact (if_neg (by omega)).symm), rfl⟩
  · refine s_ldI1 ok rfl ?_
    refine s_ldA0 ok rfl ?_
    refine s_getF ok rfl hq rfl hv ?_
    refine s_alen ok rfl ha ?_
    refine s_c_ge ok rfl za ⟨by omega, by omega⟩ (fun c10 => ?_) (fun c10 => ?_)
    · refine s_ci ok rfl ?_
      refine s_retZ ok rfl (by first | exact Or.inl rfl | exact Or.inr rfl) ⟨congrArg (fun z => some (Value.int (iI z))) (by first | exact (if_pos (by omega)).symm | exact (if_neg (by omega)).symm), rfl⟩
    · refine s_ci ok rfl ?_
      refine s_goto ok rfl ?_
      refine s_retZ ok rfl (by first | exact Or.inl rfl | exact Or.inr rfl) ⟨congrArg (fun z => some (Value.int (iI z))) (by first | exact (if_pos (by omega)).symm | exact (if_neg (by omega)).symm), rfl⟩
theorem ct_rhasRun {E : zE} {d : Nat} {k : Nat → Nat × Nat} {h : Nat → Int → Int} {r : Nat → Int → Option Nat} {l : Nat → Nat → Int64} {n : Nat} {w ar L : Nat} {so : Int} (hw : rw_ k h r w ar L so) {a b : Int} (za : zb a) (z2 : zb b) : zCT E d M_X4_hasRun [.ref w, .int (iI (a)), .int (iI (b))] (zJ (k, h, r, l, n)) 0 0 (zV (.int (iI (if 0 ≤ a ∧ 0 ≤ b ∧ b ≤ L ∧ a ≤ L - b then 1 else 0))) (zJ (k, h, r, l, n))) := by
  have ok := ok_X4_hasRun
  refine zCT_of pn_X4_hasRun (Nat.le_of_ble_eq_true rfl) ?_
  show zGo _ _ _ _ _ _ 0 ([some (.ref w), some (.int (iI (a))), some (.int (iI (b)))], [], _, _, _)
  obtain ⟨hq, hs, hv, ha, hl, s0, s1⟩ := hw
  have hL : Nat.ble L 100000 = true := Nat.ble_eq_true_of_le (by omega)
  refine s_ldI1 ok rfl ?_
  refine s_if_lt ok rfl za (fun c1 => ?_) (fun c1 => ?_)
  · refine s_ci ok rfl ?_
    refine s_retZ ok rfl (by first | exact Or.inl rfl | exact Or.inr rfl) ⟨congrArg (fun z => some (Value.int (iI z))) (by first | exact (if_pos (by omega)).symm | exact (if_neg (by omega)).symm), rfl⟩
  · refine s_ldI2 ok rfl ?_
    refine s_if_lt ok rfl z2 (fun c5 => ?_) (fun c5 => ?_)
    · refine s_ci ok rfl ?_
      refine s_retZ ok rfl (by first | exact Or.inl rfl | exact Or.inr rfl) ⟨congrArg (fun z => some (Value.int (iI z))) (by first | exact (if_pos (by omega)).symm | exact (if_neg (by omega)).symm), rfl⟩
    · refine s_ldI2 ok rfl ?_
      refine s_ldA0 ok rfl ?_
      refine s_getF ok rfl hq rfl hv ?_
      refine s_alen ok rfl ha ?_
      refine s_c_gt ok rfl z2 ⟨by omega, by omega⟩ (fun c14 => ?_) (fun c14 => ?_)
      · refine s_ci ok rfl ?_
        refine s_retZ ok rfl (by first | exact Or.inl rfl | exact Or.inr rfl) ⟨congrArg (fun z => some (Value.int (iI z))) (by first | exact (if_pos (by omega)).symm | exact (if_neg (by omega)).symm), rfl⟩
      · refine s_ldI1 ok rfl ?_
        refine s_ldA0 ok rfl ?_
        refine s_getF ok rfl hq rfl hv ?_
        refine s_alen ok rfl ha ?_
        refine s_ldI2 ok rfl ?_
        refine s_sub ok rfl ?_
        have z2b := z2
        refine s_c_gt ok rfl za ⟨by omega, by omega⟩ (fun c25 => ?_) (fun c25 => ?_)
        · refine s_ci ok rfl ?_
          refine s_retZ ok rfl (by first | exact Or.inl rfl | exact Or.inr rfl) ⟨congrArg (fun z => some (Value.int (iI z))) (by first | exact (if_pos (by omega)).symm | exact (if_neg (by omega)).symm), rfl⟩
        · refine s_ci ok rfl ?_
          refine s_goto ok rfl ?_
          refine s_retZ ok rfl (by first | exact Or.inl rfl | exact Or.inr rfl) ⟨congrArg (fun z => some (Value.int (iI z))) (by first | exact (if_pos (by omega)).symm | exact (if_neg (by omega)).symm), rfl⟩
theorem ct_rat {E : zE} {d : Nat} {k : Nat → Nat × Nat} {h : Nat → Int → Int} {r : Nat → Int → Option Nat} {l : Nat → Nat → Int64} {n : Nat} {w ar L : Nat} {so : Int} (hw : rw_ k h r w ar L so) {a : Int} (za : zb a) : zCT E (d + 1) M_X4_at [.ref w, .int (iI (a))] (zJ (k, h, r, l, n)) 0 0 (zV (.int (iI (tc (h ar) L a))) (zJ (k, h, r, l, n))) := by
  have ok := ok_X4_at
  refine zCT_of pn_X4_at (Nat.le_of_ble_eq_true rfl) ?_
  show zGo _ _ _ _ _ _ 0 ([some (.ref w), some (.int (iI (a)))], [], _, _, _)
  obtain ⟨hq, hs, hv, ha, hl, s0, s1⟩ := hw
  have hL : Nat.ble L 100000 = true := Nat.ble_eq_true_of_le (by omega)
  refine s_ldA0 ok rfl ?_
  refine s_ldI1 ok rfl ?_
  refine s_callV ok rfl rfl rfl rfl hq rfl (ct_rhas ⟨hq, hs, hv, ha, hl, s0, s1⟩ za) ?_
  refine s_if_eq ok rfl zif01 (fun c5 => ?_) (fun c5 => ?_)
  · refine s_ci ok rfl ?_
    refine s_retI ok rfl ⟨congrArg (fun z => some (Value.int (iI z))) (by unfold tc; first | exact (if_pos (by omega)).symm | exact (if_neg (fun q => zif_f c5 q)).symm), rfl⟩
  · have ya := zif_t c5
    refine s_ldA0 ok rfl ?_
    refine s_getF ok rfl hq rfl hv ?_
    refine s_ldI1 ok rfl ?_
    refine s_iald ok rfl ha hL (by omega) (by omega) ?_
    refine s_goto ok rfl ?_
    refine s_retI ok rfl ⟨congrArg (fun z => some (Value.int (iI z))) (by unfold tc; first | exact (if_pos (by omega)).symm | exact (if_neg (fun q => zif_f c5 q)).symm), rfl⟩
theorem ct_rnarrowed {E : zE} {d : Nat} {k : Nat → Nat × Nat} {h : Nat → Int → Int} {r : Nat → Int → Option Nat} {l : Nat → Nat → Int64} {n : Nat} {w ar L : Nat} {so : Int} (hw : rw_ k h r w ar L so) {b : Int} : zCT E d M_X4_narrowed [.ref w, .int (iI (b))] (zJ (k, h, r, l, n)) 0 0 (zV (.int (iI (nwV so b))) (zJ (k, h, r, l, n))) := by
  have ok := ok_X4_narrowed
  refine zCT_of pn_X4_narrowed (Nat.le_of_ble_eq_true rfl) ?_
  show zGo _ _ _ _ _ _ 0 ([some (.ref w), some (.int (iI (b)))], [], _, _, _)
  obtain ⟨hq, hs, hv, ha, hl, s0, s1⟩ := hw
  have hL : Nat.ble L 100000 = true := Nat.ble_eq_true_of_le (by omega)
  refine s_ldA0 ok rfl ?_
  refine s_getJ 0 ok rfl hq rfl rfl ?_
  rw [hs]
  refine s_sw ok rfl ?_
  refine zsw_c (by first | exact hb _ _ | exact ⟨by omega, by omega⟩) (by first | exact hb _ _ | exact ⟨by omega, by omega⟩) (fun c4 => ?_) (fun c4_0 => ?_)
  · refine s_ldI1 ok rfl ?_
    refine s_i2i ok rfl (nwV_8 c4) ?_
    refine s_retI ok rfl ⟨congrArg (fun z => some (Value.int (iI z))) (by first | rfl | exact nwV_32 (by omega) (by omega)), rfl⟩
  refine zsw_c (by first | exact hb _ _ | exact ⟨by omega, by omega⟩) (by first | exact hb _ _ | exact ⟨by omega, by omega⟩) (fun c4 => ?_) (fun c4_1 => ?_)
  · refine s_ldI1 ok rfl ?_
    refine s_i2i ok rfl (nwV_16 (fun q => by omega) c4) ?_
    refine s_retI ok rfl ⟨congrArg (fun z => some (Value.int (iI z))) (by first | rfl | exact nwV_32 (by omega) (by omega)), rfl⟩
  show zGo _ _ _ _ _ _ 38 _
  refine s_ldI1 ok rfl ?_
  refine s_retI ok rfl ⟨congrArg (fun z => some (Value.int (iI z))) (by first | rfl | exact nwV_32 (by omega) (by omega)), rfl⟩
theorem ct_rwrite {E : zE} {d : Nat} {k : Nat → Nat × Nat} {h : Nat → Int → Int} {r : Nat → Int → Option Nat} {l : Nat → Nat → Int64} {n : Nat} {w ar L : Nat} {so : Int} (hw : rw_ k h r w ar L so) {a b : Int} (za : zb a) : zCT E (d + 2) M_X4_write [.ref w, .int (iI (a)), .int (iI (b))] (zJ (k, h, r, l, n)) 0 0 (zU (zJ (k, (if 0 ≤ a ∧ a < L then zv h ar a (nwV so b) else h), r, l, n))) := by
  have ok := ok_X4_write
  refine zCT_of pn_X4_write (Nat.le_of_ble_eq_true rfl) ?_
  show zGo _ _ _ _ _ _ 0 ([some (.ref w), some (.int (iI (a))), some (.int (iI (b)))], [], _, _, _)
  obtain ⟨hq, hs, hv, ha, hl, s0, s1⟩ := hw
  have hL : Nat.ble L 100000 = true := Nat.ble_eq_true_of_le (by omega)
  refine s_ldA0 ok rfl ?_
  refine s_ldI1 ok rfl ?_
  refine s_callV ok rfl rfl rfl rfl hq rfl (ct_rhas ⟨hq, hs, hv, ha, hl, s0, s1⟩ za) ?_
  refine s_if_eq ok rfl zif01 (fun c5 => ?_) (fun c5 => ?_)
  · refine s_retV ok rfl ⟨rfl, by first | rw [if_pos ya] | rw [if_neg (fun q => zif_f c5 q)]⟩
  · have ya := zif_t c5
    refine s_ldA0 ok rfl ?_
    refine s_getF ok rfl hq rfl hv ?_
    refine s_ldI1 ok rfl ?_
    refine s_ldA0 ok rfl ?_
    refine s_ldI2 ok rfl ?_
    refine s_callV ok rfl rfl rfl rfl hq rfl (ct_rnarrowed ⟨hq, hs, hv, ha, hl, s0, s1⟩) ?_
    refine s_iast ok rfl ha hL (by omega) (by omega) (fun q => by cases q) ?_
    refine s_retV ok rfl ⟨rfl, by first | rw [if_pos ya] | rw [if_neg (fun q => zif_f c5 q)]⟩
theorem ct_risSkipped {E : zE} {d : Nat} {k : Nat → Nat × Nat} {h : Nat → Int → Int} {r : Nat → Int → Option Nat} {l : Nat → Nat → Int64} {n : Nat} {w ar L : Nat} {so : Int} (hw : rw_ k h r w ar L so) {a : Int} (za : zb a) (hz : ∀ j, zb (h ar j)) : zCT E (d + 2) M_X4_isSkipped [.ref w, .int (iI (a))] (zJ (k, h, r, l, n)) 0 0 (zV (.int (iI (if tc (h ar) L a = kLe so then 1 else 0))) (zJ (k, h, r, l, n))) := by
  have ok := ok_X4_isSkipped
  refine zCT_of pn_X4_isSkipped (Nat.le_of_ble_eq_true rfl) ?_
  show zGo _ _ _ _ _ _ 0 ([some (.ref w), some (.int (iI (a)))], [], _, _, _)
  obtain ⟨hq, hs, hv, ha, hl, s0, s1⟩ := hw
  have hL : Nat.ble L 100000 = true := Nat.ble_eq_true_of_le (by omega)
  have zt : zb (tc (h ar) L a) := by
    unfold tc
    split
    · exact hz a
    · exact ⟨by omega, by omega⟩
  refine s_ldA0 ok rfl ?_
  refine s_getJ 0 ok rfl hq rfl rfl ?_
  rw [hs]
  refine s_sw ok rfl ?_
  refine zsw_c (by first | exact hb _ _ | exact ⟨by omega, by omega⟩) (by first | exact hb _ _ | exact ⟨by omega, by omega⟩) (fun c4 => ?_) (fun c4_0 => ?_)
  · refine s_ldA0 ok rfl ?_
    refine s_ldI1 ok rfl ?_
    refine s_callV ok rfl rfl rfl rfl hq rfl (ct_rat ⟨hq, hs, hv, ha, hl, s0, s1⟩ za) ?_
    refine s_ci ok rfl ?_
    refine s_c_eq ok rfl zt ⟨by omega, by omega⟩ (fun c39 => ?_) (fun c39 => ?_)
    · refine s_ci ok rfl ?_
      refine s_goto ok rfl ?_
      refine s_retZ ok rfl (by first | exact Or.inl rfl | exact Or.inr rfl) ⟨congrArg (fun z => some (Value.int (iI z))) (by unfold kLe; (repeat (first | rw [if_pos (by omega)] | rw [if_neg (by omega)])); try (first | rfl | exact (if_pos (by omega)).symm | exact (if_neg (by omega)).symm)), rfl⟩
    · refine s_ci ok rfl ?_
      refine s_retZ ok rfl (by first | exact Or.inl rfl | exact Or.inr rfl) ⟨congrArg (fun z => some (Value.int (iI z))) (by unfold kLe; (repeat (first | rw [if_pos (by omega)] | rw [if_neg (by omega)])); try (first | rfl | exact (if_pos (by omega)).symm | exact (if_neg (by omega)).symm)), rfl⟩
  refine zsw_c (by first | exact hb _ _ | exact ⟨by omega, by omega⟩) (by first | exact hb _ _ | exact ⟨by omega, by omega⟩) (fun c4 => ?_) (fun c4_1 => ?_)
  · refine s_ldA0 ok rfl ?_
    refine s_ldI1 ok rfl ?_
    refine s_callV ok rfl rfl rfl rfl hq rfl (ct_rat ⟨hq, hs, hv, ha, hl, s0, s1⟩ za) ?_
    refine s_ci ok rfl ?_
    refine s_c_eq ok rfl zt ⟨by omega, by omega⟩ (fun c56 => ?_) (fun c56 => ?_)
    · refine s_ci ok rfl ?_
      refine s_goto ok rfl ?_
      refine s_retZ ok rfl (by first | exact Or.inl rfl | exact Or.inr rfl) ⟨congrArg (fun z => some (Value.int (iI z))) (by unfold kLe; (repeat (first | rw [if_pos (by omega)] | rw [if_neg (by omega)])); try (first | rfl | exact (if_pos (by omega)).symm | exact (if_neg (by omega)).symm)), rfl⟩
    · refine s_ci ok rfl ?_
      refine s_retZ ok rfl (by first | exact Or.inl rfl | exact Or.inr rfl) ⟨congrArg (fun z => some (Value.int (iI z))) (by unfold kLe; (repeat (first | rw [if_pos (by omega)] | rw [if_neg (by omega)])); try (first | rfl | exact (if_pos (by omega)).symm | exact (if_neg (by omega)).symm)), rfl⟩
  show zGo _ _ _ _ _ _ 65 _
  refine s_ldA0 ok rfl ?_
  refine s_ldI1 ok rfl ?_
  refine s_callV ok rfl rfl rfl rfl hq rfl (ct_rat ⟨hq, hs, hv, ha, hl, s0, s1⟩ za) ?_
  refine s_ci ok rfl ?_
  refine s_c_eq ok rfl zt ⟨by omega, by omega⟩ (fun c72 => ?_) (fun c72 => ?_)
  · refine s_ci ok rfl ?_
    refine s_goto ok rfl ?_
    refine s_retZ ok rfl (by first | exact Or.inl rfl | exact Or.inr rfl) ⟨congrArg (fun z => some (Value.int (iI z))) (by unfold kLe; (repeat (first | rw [if_pos (by omega)] | rw [if_neg (by omega)])); try (first | rfl | exact (if_pos (by omega)).symm | exact (if_neg (by omega)).symm)), rfl⟩
  · refine s_ci ok rfl ?_
    refine s_retZ ok rfl (by first | exact Or.inl rfl | exact Or.inr rfl) ⟨congrArg (fun z => some (Value.int (iI z))) (by unfold kLe; (repeat (first | rw [if_pos (by omega)] | rw [if_neg (by omega)])); try (first | rfl | exact (if_pos (by omega)).symm | exact (if_neg (by omega)).symm)), rfl⟩
theorem lp_rnumber {E : zE} {d : Nat} {k : Nat → Nat × Nat} {h : Nat → Int → Int} {r : Nat → Int → Option Nat} {l : Nat → Nat → Int64} {n : Nat} {Q : zQ} {w ar L : Nat} {so : Int} (hw : rw_ k h r w ar L so) {a : Int} {dg : Nat} (a0 : -1000 ≤ a) (a1 : a ≤ 1000) (d3 : dg ≤ 3) (hQ : Q (some (.int (iI (nm (tc (h ar) L) a dg)))) (zJ (k, h, r, l, n))) : ∀ c : Nat, ∀ m : Nat, dg < m + c → m ≤ dg → zGo E (d + 2) M_X4_number 0 0 Q 5 ([some (.ref w), some (.int (iI (a))), some (.int (iI ((dg : Int)))), some (.int (iI (nm (tc (h ar) L) a m))), some (.int (iI ((m : Int))))], [], zJ (k, h, r, l, n), 0, 0) := by
  have ok := ok_X4_number
  intro c
  induction c with
  | zero =>
    intros
    omega
  | succ c ih =>
    intro m g1 g2
    obtain ⟨hq, hs, hv, ha, hl, s0, s1⟩ := hw
    have hL : Nat.ble L 100000 = true := Nat.ble_eq_true_of_le (by omega)
    refine s_ldI4 ok rfl ?_
    refine s_ldI2 ok rfl ?_
    refine s_c_ge ok rfl ⟨by omega, by omega⟩ ⟨by omega, by omega⟩ (fun c8 => ?_) (fun c8 => ?_)
    · refine s_ldI3 ok rfl ?_
      refine s_retI ok rfl (by rw [show m = dg by omega]; exact hQ)
    · refine s_ci ok rfl ?_
      refine s_ldI3 ok rfl ?_
      refine s_mul ok rfl ?_
      refine s_ldA0 ok rfl ?_
      refine s_ldI1 ok rfl ?_
      refine s_ldI4 ok rfl ?_
      refine s_add ok rfl ?_
      refine s_callV ok rfl rfl rfl rfl hq rfl (ct_rat ⟨hq, hs, hv, ha, hl, s0, s1⟩ (by exact ⟨by omega, by omega⟩)) ?_
      refine s_add ok rfl ?_
      refine s_ci ok rfl ?_
      refine s_sub ok rfl ?_
      refine s_stI3 ok rfl rfl ?_
      refine s_inc4 ok rfl rfl ?_
      refine s_goto ok rfl ?_
      exact ih (m + 1) (by omega) (by omega)
theorem ct_rnumber {E : zE} {d : Nat} {k : Nat → Nat × Nat} {h : Nat → Int → Int} {r : Nat → Int → Option Nat} {l : Nat → Nat → Int64} {n : Nat} {w ar L : Nat} {so : Int} (hw : rw_ k h r w ar L so) {a : Int} {dg : Nat} (a0 : -1000 ≤ a) (a1 : a ≤ 1000) (d3 : dg ≤ 3) : zCT E (d + 2) M_X4_number [.ref w, .int (iI (a)), .int (iI ((dg : Int)))] (zJ (k, h, r, l, n)) 0 0 (zV (.int (iI (nm (tc (h ar) L) a dg))) (zJ (k, h, r, l, n))) := by
  have ok := ok_X4_number
  refine zCT_of pn_X4_number (Nat.le_of_ble_eq_true rfl) ?_
  show zGo _ _ _ _ _ _ 0 ([some (.ref w), some (.int (iI (a))), some (.int (iI ((dg : Int)))), none, none], [], _, _, _)
  refine s_ci ok rfl ?_
  refine s_stI3 ok rfl rfl ?_
  refine s_ci ok rfl ?_
  refine s_stI4 ok rfl rfl ?_
  exact lp_rnumber (E := E) (d := d) (k := k) (r := r) (l := l) (n := n) (h := h) hw a0 a1 d3 (Q := zV (.int (iI (nm (tc (h ar) L) a dg))) (zJ (k, h, r, l, n))) ⟨rfl, rfl⟩ (dg + 1) 0 (by omega) (by omega)
