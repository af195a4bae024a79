/-! the class: what is told -/
theorem cR4_one {k : Nat → Nat × Nat} {h : Nat → Int → Int} {r : Nat → Int → Option Nat} {n : Nat} {p : Int → Int} (c : cR 4 5 6 7 8 9 10 11 12 13 k h r n p (-4)) {t : Int} (t0 : 0 ≤ t) (t1 : t < p 6) : ∃ v, r 5 t = some v ∧ wk k h v (pK p t) (pF p t) ∧ h 6 t = pFr p t ∧ h 7 t = pTo p t ∧ h 8 t = pBa p t := by
  have e := c.2.1 t t0 (by rw [cnP_4]; exact t1)
  rw [sg_4] at e
  exact e
theorem cR4_n {k : Nat → Nat × Nat} {h : Nat → Int → Int} {r : Nat → Int → Option Nat} {n : Nat} {p : Int → Int} (c : cR 4 5 6 7 8 9 10 11 12 13 k h r n p (-4)) : h 4 0 = p 6 := c.1.1.trans cnP_4
theorem ct_isDepth11 {E : zE} {d : Nat} {k : Nat → Nat × Nat} {h : Nat → Int → Int} {r : Nat → Int → Option Nat} {l : Nat → Nat → Int64} {n : Nat} {t : Int} (zt : zb t) : zCT E d M_X11_isDepth [.int (iI (t))] (zJ (k, h, r, l, n)) 0 0 (zV (.int (iI (if 0 ≤ t ∧ t < 3 then 1 else 0))) (zJ (k, h, r, l, n))) := by
  have ok := ok_X11_isDepth
  refine zCT_of pn_X11_isDepth (Nat.le_of_ble_eq_true rfl) ?_
  show zGo _ _ _ _ _ _ 0 ([some (.int (iI (t)))], [], _, _, _)
  refine s_ldI0 ok rfl ?_
  refine s_if_lt ok rfl zt (fun c1 => ?_) (fun c1 => ?_)
  · refine s_ci ok rfl ?_
    refine s_retZ ok rfl (by first | exact Or.inl rfl | exact Or.inr rfl) ⟨congrArg (fun z => some (Value.int (iI z))) (by first | exact (if_pos (by omega)).symm | exact (if_neg (by omega)).symm), rfl⟩
  · refine s_ldI0 ok rfl ?_
    refine s_ci ok rfl ?_
    refine s_c_gt ok rfl zt ⟨by omega, by omega⟩ (fun c6 => ?_) (fun c6 => ?_)
    · refine s_ci ok rfl ?_
      refine s_retZ ok rfl (by first | exact Or.inl rfl | exact Or.inr rfl) ⟨congrArg (fun z => some (Value.int (iI z))) (by first | exact (if_pos (by omega)).symm | exact (if_neg (by omega)).symm), rfl⟩
    · refine s_ci ok rfl ?_
      refine s_goto ok rfl ?_
      refine s_retZ ok rfl (by first | exact Or.inl rfl | exact Or.inr rfl) ⟨congrArg (fun z => some (Value.int (iI z))) (by first | exact (if_pos (by omega)).symm | exact (if_neg (by omega)).symm), rfl⟩
theorem ct_takes11 {E : zE} {d : Nat} {k : Nat → Nat × Nat} {h : Nat → Int → Int} {r : Nat → Int → Option Nat} {l : Nat → Nat → Int64} {n : Nat} {p : Int → Int} (hp : pOK p) (hR : cR 4 5 6 7 8 9 10 11 12 13 k h r n p (-4)) {t b : Int} (zt : zb t) (z2 : zb b) : zCT E (d + 6) M_X11_takes [.ref 3, .int (iI (t)), .int (iI (b))] (zJ (k, h, r, l, n)) 0 0 (zV (.int (iI (if (0 ≤ t ∧ t < p 6) ∧ (0 ≤ b ∧ b < 3) then pTk p t b else -1))) (zJ (k, h, r, l, n))) := by
  have ok := ok_X11_takes
  refine zCT_of pn_X11_takes (Nat.le_of_ble_eq_true rfl) ?_
  show zGo _ _ _ _ _ _ 0 ([some (.ref 3), some (.int (iI (t))), some (.int (iI (b)))], [], _, _, _)
  have p60 := hp.2.2.2.2.2.2.2.2.2.2.2.2.1
  have p68 := hp.2.2.2.2.2.2.2.2.2.2.2.2.2.1
  have p00 := hp.1
  have p04 := hp.2.1
  refine s_ldA0 ok rfl ?_
  refine s_getF ok rfl rfl rfl rfl ?_
  refine s_ldI1 ok rfl ?_
  refine s_callV ok rfl rfl rfl rfl rfl rfl (ct_isPerson4 (cR4_n hR) p60 p68 zt) ?_
  refine s_if_eq ok rfl zif01 (fun c8 => ?_) (fun c8 => ?_)
  · refine s_ci ok rfl ?_
    refine s_retI ok rfl ⟨congrArg (fun z => some (Value.int (iI z))) (by first | exact (if_neg (fun q => zif_f c8 q.1)).symm | exact (if_neg (fun q => zif_f c15 q.2)).symm), rfl⟩
  · refine s_ldI2 ok rfl ?_
    refine s_callS ok rfl rfl rfl rfl (ct_isDepth11 z2) ?_
    refine s_if_eq ok rfl zif01 (fun c15 => ?_) (fun c15 => ?_)
    · refine s_ci ok rfl ?_
      refine s_retI ok rfl ⟨congrArg (fun z => some (Value.int (iI z))) (by first | exact (if_neg (fun q => zif_f c8 q.1)).symm | exact (if_neg (fun q => zif_f c15 q.2)).symm), rfl⟩
    · have yt := zif_t c8
      obtain ⟨v, hv, wv, h2, h3, h4⟩ := cR4_one hR yt.1 yt.2
      obtain ⟨⟨k0, k1⟩, ⟨f0, f1⟩, ⟨fr0, fr1⟩, ⟨to0, to1⟩, ⟨ba0, ba1⟩⟩ := hp.2.2.2.2.2.2.2.2.2.2.2.2.2.2.2.2 t yt.1 (by omega)
      have yb := zif_t c15
      refine s_ldA0 ok rfl ?_
      refine s_getF ok rfl rfl rfl rfl ?_
      refine s_getF ok rfl rfl rfl rfl ?_
      refine s_ldI1 ok rfl ?_
      refine s_aald ok rfl (by exact rfl) (by exact rfl) (by exact rfl) (by omega) (by omega) hv ?_
      refine s_ldI2 ok rfl ?_
      refine s_callD ok rfl rfl rfl rfl (vt_boards wv (by omega) (by omega)) ?_
      refine s_if_eq ok rfl (by unfold kTk; exact zif10) (fun c33 => ?_) (fun c33 => ?_)
      · refine s_ci ok rfl ?_
        refine s_retI ok rfl ⟨congrArg (fun z => some (Value.int (iI z))) (by rw [if_pos ⟨yt, yb⟩]; have z : pTk p t b = 0 ∨ pTk p t b = 1 := pTk_01 p t b; first | (have c : ¬ pTk p t b = 0 := c33; omega) | (have c : pTk p t b = 0 := c33; omega)), rfl⟩
      · refine s_ci ok rfl ?_
        refine s_goto ok rfl ?_
        refine s_retI ok rfl ⟨congrArg (fun z => some (Value.int (iI z))) (by rw [if_pos ⟨yt, yb⟩]; have z : pTk p t b = 0 ∨ pTk p t b = 1 := pTk_01 p t b; first | (have c : ¬ pTk p t b = 0 := c33; omega) | (have c : pTk p t b = 0 := c33; omega)), rfl⟩
theorem ct_refund11 {E : zE} {d : Nat} {k : Nat → Nat × Nat} {h : Nat → Int → Int} {r : Nat → Int → Option Nat} {l : Nat → Nat → Int64} {n : Nat} {p : Int → Int} (hp : pOK p) (hR : cR 4 5 6 7 8 9 10 11 12 13 k h r n p (-4)) {t b : Int} (zt : zb t) (z2 : zb b) : zCT E (d + 6) M_X11_refund [.ref 3, .int (iI (t)), .int (iI (b))] (zJ (k, h, r, l, n)) 0 0 (zV (.int (iI (if (0 ≤ t ∧ t < p 6) ∧ (0 ≤ b ∧ b < 3) then pRf p t b else -1))) (zJ (k, h, r, l, n))) := by
  have ok := ok_X11_refund
  refine zCT_of pn_X11_refund (Nat.le_of_ble_eq_true rfl) ?_
  show zGo _ _ _ _ _ _ 0 ([some (.ref 3), some (.int (iI (t))), some (.int (iI (b)))], [], _, _, _)
  have p60 := hp.2.2.2.2.2.2.2.2.2.2.2.2.1
  have p68 := hp.2.2.2.2.2.2.2.2.2.2.2.2.2.1
  have p00 := hp.1
  have p04 := hp.2.1
  refine s_ldA0 ok rfl ?_
  refine s_getF ok rfl rfl rfl rfl ?_
  refine s_ldI1 ok rfl ?_
  refine s_callV ok rfl rfl rfl rfl rfl rfl (ct_isPerson4 (cR4_n hR) p60 p68 zt) ?_
  refine s_if_eq ok rfl zif01 (fun c8 => ?_) (fun c8 => ?_)
  · refine s_ci ok rfl ?_
    refine s_retI ok rfl ⟨congrArg (fun z => some (Value.int (iI z))) (by first | exact (if_neg (fun q => zif_f c8 q.1)).symm | exact (if_neg (fun q => zif_f c15 q.2)).symm), rfl⟩
  · refine s_ldI2 ok rfl ?_
    refine s_callS ok rfl rfl rfl rfl (ct_isDepth11 z2) ?_
    refine s_if_eq ok rfl zif01 (fun c15 => ?_) (fun c15 => ?_)
    · refine s_ci ok rfl ?_
      refine s_retI ok rfl ⟨congrArg (fun z => some (Value.int (iI z))) (by first | exact (if_neg (fun q => zif_f c8 q.1)).symm | exact (if_neg (fun q => zif_f c15 q.2)).symm), rfl⟩
    · have yt := zif_t c8
      obtain ⟨v, hv, wv, h2, h3, h4⟩ := cR4_one hR yt.1 yt.2
      obtain ⟨⟨k0, k1⟩, ⟨f0, f1⟩, ⟨fr0, fr1⟩, ⟨to0, to1⟩, ⟨ba0, ba1⟩⟩ := hp.2.2.2.2.2.2.2.2.2.2.2.2.2.2.2.2 t yt.1 (by omega)
      have yb := zif_t c15
      refine s_ldA0 ok rfl ?_
      refine s_getF ok rfl rfl rfl rfl ?_
      refine s_getF ok rfl rfl rfl rfl ?_
      refine s_ldI1 ok rfl ?_
      refine s_aald ok rfl (by exact rfl) (by exact rfl) (by exact rfl) (by omega) (by omega) hv ?_
      refine s_ldI2 ok rfl ?_
      refine s_callD ok rfl rfl rfl rfl (vt_refundFor wv (by omega) (by omega)) ?_
      refine s_retI ok rfl ⟨congrArg (fun z => some (Value.int (iI z))) (if_pos ⟨yt, yb⟩).symm, rfl⟩
theorem ct_traveller11 {E : zE} {d : Nat} {k : Nat → Nat × Nat} {h : Nat → Int → Int} {r : Nat → Int → Option Nat} {l : Nat → Nat → Int64} {n : Nat} {p : Int → Int} (hp : pOK p) (hR : cR 4 5 6 7 8 9 10 11 12 13 k h r n p (-4)) {t a : Int} (zt : zb t) (z2 : zb a) : zCT E (d + 6) M_X11_traveller [.ref 3, .int (iI (t)), .int (iI (a))] (zJ (k, h, r, l, n)) 0 0 (zV (.int (iI (if 0 ≤ t ∧ t < p 6 then sTv p t a else -1))) (zJ (k, h, r, l, n))) := by
  have ok := ok_X11_traveller
  refine zCT_of pn_X11_traveller (Nat.le_of_ble_eq_true rfl) ?_
  show zGo _ _ _ _ _ _ 0 ([some (.ref 3), some (.int (iI (t))), some (.int (iI (a))), none], [], _, _, _)
  have p60 := hp.2.2.2.2.2.2.2.2.2.2.2.2.1
  have p68 := hp.2.2.2.2.2.2.2.2.2.2.2.2.2.1
  have p00 := hp.1
  have p04 := hp.2.1
  refine s_ldA0 ok rfl ?_
  refine s_getF ok rfl rfl rfl rfl ?_
  refine s_ldI1 ok rfl ?_
  refine s_callV ok rfl rfl rfl rfl rfl rfl (ct_isPerson4 (cR4_n hR) p60 p68 zt) ?_
  refine s_if_eq ok rfl zif01 (fun c8 => ?_) (fun c8 => ?_)
  · refine s_ci ok rfl ?_
    refine s_retI ok rfl ⟨congrArg (fun z => some (Value.int (iI z))) (by first | exact (if_neg (fun q => zif_f c8 q)).symm | (rw [if_pos yt]; unfold sTv; (repeat (first | rw [if_pos (by omega)] | rw [if_neg (by omega)])); first | done | rfl | exact w0.trans (congrArg p (by omega)) | exact w1.trans (congrArg p (by omega)) | exact h2.trans (congrArg p (by omega)) | exact h3.trans (congrArg p (by omega)) | exact h4.trans (congrArg p (by omega)))), rfl⟩
  · have yt := zif_t c8
    obtain ⟨v, hv, wv, h2, h3, h4⟩ := cR4_one hR yt.1 yt.2
    obtain ⟨⟨k0, k1⟩, ⟨f0, f1⟩, ⟨fr0, fr1⟩, ⟨to0, to1⟩, ⟨ba0, ba1⟩⟩ := hp.2.2.2.2.2.2.2.2.2.2.2.2.2.2.2.2 t yt.1 (by omega)
    obtain ⟨-, ⟨w0, w1⟩, -⟩ := id wv
    refine s_ldA0 ok rfl ?_
    refine s_getF ok rfl rfl rfl rfl ?_
    refine s_getF ok rfl rfl rfl rfl ?_
    refine s_ldI1 ok rfl ?_
    refine s_aald ok rfl (by exact rfl) (by exact rfl) (by exact rfl) (by omega) (by omega) hv ?_
    refine s_stA3 ok rfl rfl ?_
    refine s_ldI2 ok rfl ?_
    refine s_sw ok rfl ?_
    refine zsw_c z2 (by first | exact hb _ _ | exact ⟨by omega, by omega⟩) (fun c24 => ?_) (fun c24_0 => ?_)
    · refine s_ldA3 ok rfl ?_
      refine s_getJ 0 ok rfl wv.1 (wk_c wv).1 rfl ?_
      refine s_retI ok rfl ⟨congrArg (fun z => some (Value.int (iI z))) (by first | exact (if_neg (fun q => zif_f c8 q)).symm | (rw [if_pos yt]; unfold sTv; (repeat (first | rw [if_pos (by omega)] | rw [if_neg (by omega)])); first | done | rfl | exact w0.trans (congrArg p (by omega)) | exact w1.trans (congrArg p (by omega)) | exact h2.trans (congrArg p (by omega)) | exact h3.trans (congrArg p (by omega)) | exact h4.trans (congrArg p (by omega)))), rfl⟩
    refine zsw_c z2 (by first | exact hb _ _ | exact ⟨by omega, by omega⟩) (fun c24 => ?_) (fun c24_1 => ?_)
    · refine s_ldA3 ok rfl ?_
      refine s_getJ 1 ok rfl wv.1 (wk_c wv).1 rfl ?_
      refine s_retI ok rfl ⟨congrArg (fun z => some (Value.int (iI z))) (by first | exact (if_neg (fun q => zif_f c8 q)).symm | (rw [if_pos yt]; unfold sTv; (repeat (first | rw [if_pos (by omega)] | rw [if_neg (by omega)])); first | done | rfl | exact w0.trans (congrArg p (by omega)) | exact w1.trans (congrArg p (by omega)) | exact h2.trans (congrArg p (by omega)) | exact h3.trans (congrArg p (by omega)) | exact h4.trans (congrArg p (by omega)))), rfl⟩
    refine zsw_c z2 (by first | exact hb _ _ | exact ⟨by omega, by omega⟩) (fun c24 => ?_) (fun c24_2 => ?_)
    · refine s_ldA0 ok rfl ?_
      refine s_getF ok rfl rfl rfl rfl ?_
      refine s_getF ok rfl rfl rfl rfl ?_
      refine s_ldI1 ok rfl ?_
      refine s_iald ok rfl (by exact rfl) (by exact rfl) (by omega) (by omega) ?_
      refine s_retI ok rfl ⟨congrArg (fun z => some (Value.int (iI z))) (by first | exact (if_neg (fun q => zif_f c8 q)).symm | (rw [if_pos yt]; unfold sTv; (repeat (first | rw [if_pos (by omega)] | rw [if_neg (by omega)])); first | done | rfl | exact w0.trans (congrArg p (by omega)) | exact w1.trans (congrArg p (by omega)) | exact h2.trans (congrArg p (by omega)) | exact h3.trans (congrArg p (by omega)) | exact h4.trans (congrArg p (by omega)))), rfl⟩
    refine zsw_c z2 (by first | exact hb _ _ | exact ⟨by omega, by omega⟩) (fun c24 => ?_) (fun c24_3 => ?_)
    · refine s_ldA0 ok rfl ?_
      refine s_getF ok rfl rfl rfl rfl ?_
      refine s_getF ok rfl rfl rfl rfl ?_
      refine s_ldI1 ok rfl ?_
      refine s_iald ok rfl (by exact rfl) (by exact rfl) (by omega) (by omega) ?_
      refine s_retI ok rfl ⟨congrArg (fun z => some (Value.int (iI z))) (by first | exact (if_neg (fun q => zif_f c8 q)).symm | (rw [if_pos yt]; unfold sTv; (repeat (first | rw [if_pos (by omega)] | rw [if_neg (by omega)])); first | done | rfl | exact w0.trans (congrArg p (by omega)) | exact w1.trans (congrArg p (by omega)) | exact h2.trans (congrArg p (by omega)) | exact h3.trans (congrArg p (by omega)) | exact h4.trans (congrArg p (by omega)))), rfl⟩
    refine zsw_c z2 (by first | exact hb _ _ | exact ⟨by omega, by omega⟩) (fun c24 => ?_) (fun c24_4 => ?_)
    · refine s_ldA0 ok rfl ?_
      refine s_getF ok rfl rfl rfl rfl ?_
      refine s_getF ok rfl rfl rfl rfl ?_
      refine s_ldI1 ok rfl ?_
      refine s_iald ok rfl (by exact rfl) (by exact rfl) (by omega) (by omega) ?_
      refine s_retI ok rfl ⟨congrArg (fun z => some (Value.int (iI z))) (by first | exact (if_neg (fun q => zif_f c8 q)).symm | (rw [if_pos yt]; unfold sTv; (repeat (first | rw [if_pos (by omega)] | rw [if_neg (by omega)])); first | done | rfl | exact w0.trans (congrArg p (by omega)) | exact w1.trans (congrArg p (by omega)) | exact h2.trans (congrArg p (by omega)) | exact h3.trans (congrArg p (by omega)) | exact h4.trans (congrArg p (by omega)))), rfl⟩
    refine zsw_c z2 (by first | exact hb _ _ | exact ⟨by omega, by omega⟩) (fun c24 => ?_) (fun c24_5 => ?_)
    · refine s_ldA3 ok rfl ?_
      refine s_ldA0 ok rfl ?_
      refine s_getF ok rfl rfl rfl rfl ?_
      refine s_getF ok rfl rfl rfl rfl ?_
      refine s_ldI1 ok rfl ?_
      refine s_iald ok rfl (by exact rfl) (by exact rfl) (by omega) (by omega) ?_
      rw [h4]
      refine s_callD ok rfl rfl rfl rfl (vt_comesAt wv (by omega) (by omega)) ?_
      refine s_retI ok rfl ⟨congrArg (fun z => some (Value.int (iI z))) (by first | exact (if_neg (fun q => zif_f c8 q)).symm | (rw [if_pos yt]; unfold sTv; (repeat (first | rw [if_pos (by omega)] | rw [if_neg (by omega)])); first | done | rfl | exact w0.trans (congrArg p (by omega)) | exact w1.trans (congrArg p (by omega)) | exact h2.trans (congrArg p (by omega)) | exact h3.trans (congrArg p (by omega)) | exact h4.trans (congrArg p (by omega)))), rfl⟩
    refine zsw_c z2 (by first | exact hb _ _ | exact ⟨by omega, by omega⟩) (fun c24 => ?_) (fun c24_6 => ?_)
    · refine s_ldA3 ok rfl ?_
      refine s_callD ok rfl rfl rfl rfl (vt_excuse wv) ?_
      refine s_retI ok rfl ⟨congrArg (fun z => some (Value.int (iI z))) (by first | exact (if_neg (fun q => zif_f c8 q)).symm | (rw [if_pos yt]; unfold sTv; (repeat (first | rw [if_pos (by omega)] | rw [if_neg (by omega)])); first | done | rfl | exact w0.trans (congrArg p (by omega)) | exact w1.trans (congrArg p (by omega)) | exact h2.trans (congrArg p (by omega)) | exact h3.trans (congrArg p (by omega)) | exact h4.trans (congrArg p (by omega)))), rfl⟩
    refine zsw_c z2 (by first | exact hb _ _ | exact ⟨by omega, by omega⟩) (fun c24 => ?_) (fun c24_7 => ?_)
    · refine s_ldA3 ok rfl ?_
      refine s_callD ok rfl rfl rfl rfl (vt_rank wv) ?_
      refine s_retI ok rfl ⟨congrArg (fun z => some (Value.int (iI z))) (by first | exact (if_neg (fun q => zif_f c8 q)).symm | (rw [if_pos yt]; unfold sTv; (repeat (first | rw [if_pos (by omega)] | rw [if_neg (by omega)])); first | done | rfl | exact w0.trans (congrArg p (by omega)) | exact w1.trans (congrArg p (by omega)) | exact h2.trans (congrArg p (by omega)) | exact h3.trans (congrArg p (by omega)) | exact h4.trans (congrArg p (by omega)))), rfl⟩
    refine zsw_c z2 (by first | exact hb _ _ | exact ⟨by omega, by omega⟩) (fun c24 => ?_) (fun c24_8 => ?_)
    · refine s_ldA3 ok rfl ?_
      refine s_callD ok rfl rfl rfl rfl (vt_places wv) ?_
      refine s_retI ok rfl ⟨congrArg (fun z => some (Value.int (iI z))) (by first | exact (if_neg (fun q => zif_f c8 q)).symm | (rw [if_pos yt]; unfold sTv; (repeat (first | rw [if_pos (by omega)] | rw [if_neg (by omega)])); first | done | rfl | exact w0.trans (congrArg p (by omega)) | exact w1.trans (congrArg p (by omega)) | exact h2.trans (congrArg p (by omega)) | exact h3.trans (congrArg p (by omega)) | exact h4.trans (congrArg p (by omega)))), rfl⟩
    refine zsw_c z2 (by first | exact hb _ _ | exact ⟨by omega, by omega⟩) (fun c24 => ?_) (fun c24_9 => ?_)
    · refine s_ldA3 ok rfl ?_
      refine s_ldA0 ok rfl ?_
      refine s_getF ok rfl rfl rfl rfl ?_
      refine s_getF ok rfl rfl rfl rfl ?_
      refine s_ldI1 ok rfl ?_
      refine s_iald ok rfl (by exact rfl) (by exact rfl) (by omega) (by omega) ?_
      rw [h3]
      refine s_callD ok rfl rfl rfl rfl (vt_offAt wv (by omega) (by omega)) ?_
      refine s_retI ok rfl ⟨congrArg (fun z => some (Value.int (iI z))) (by first | exact (if_neg (fun q => zif_f c8 q)).symm | (rw [if_pos yt]; unfold sTv; (repeat (first | rw [if_pos (by omega)] | rw [if_neg (by omega)])); first | done | rfl | exact w0.trans (congrArg p (by omega)) | exact w1.trans (congrArg p (by omega)) | exact h2.trans (congrArg p (by omega)) | exact h3.trans (congrArg p (by omega)) | exact h4.trans (congrArg p (by omega)))), rfl⟩
    show zGo _ _ _ _ _ _ 163 _
    refine s_ci ok rfl ?_
    refine s_retI ok rfl ⟨congrArg (fun z => some (Value.int (iI z))) (by first | exact (if_neg (fun q => zif_f c8 q)).symm | (rw [if_pos yt]; unfold sTv; (repeat (first | rw [if_pos (by omega)] | rw [if_neg (by omega)])); first | done | rfl | exact w0.trans (congrArg p (by omega)) | exact w1.trans (congrArg p (by omega)) | exact h2.trans (congrArg p (by omega)) | exact h3.trans (congrArg p (by omega)) | exact h4.trans (congrArg p (by omega)))), rfl⟩
theorem ct_about11 {E : zE} {d : Nat} {k : Nat → Nat × Nat} {h : Nat → Int → Int} {r : Nat → Int → Option Nat} {l : Nat → Nat → Int64} {n : Nat} {p : Int → Int} (hp : pOK p) (hR : cR 4 5 6 7 8 9 10 11 12 13 k h r n p (-4)) {t b : Int} (zt : zb t) (z2 : zb b) : zCT E (d + 1) M_X11_about [.ref 3, .int (iI (t)), .int (iI (b))] (zJ (k, h, r, l, n)) 0 0 (zV (.int (iI (if (0 ≤ t ∧ t < p 0) ∧ (0 ≤ b ∧ b ≤ 2) then (if b < 2 then p (11 + 2 * t + b) else zbt (p 1) t) else -1))) (zJ (k, h, r, l, n))) := by
  have ok := ok_X11_about
  refine zCT_of pn_X11_about (Nat.le_of_ble_eq_true rfl) ?_
  show zGo _ _ _ _ _ _ 0 ([some (.ref 3), some (.int (iI (t))), some (.int (iI (b)))], [], _, _, _)
  have p60 := hp.2.2.2.2.2.2.2.2.2.2.2.2.1
  have p68 := hp.2.2.2.2.2.2.2.2.2.2.2.2.2.1
  have p00 := hp.1
  have p04 := hp.2.1
  refine s_ldA0 ok rfl ?_
  refine s_getF ok rfl rfl rfl rfl ?_
  refine s_ldI1 ok rfl ?_
  refine s_callV ok rfl rfl rfl rfl rfl rfl (ct_pisTrain4 hR.1.2 p00 p04 zt) ?_
  refine s_if_eq ok rfl zif01 (fun c8 => ?_) (fun c8 => ?_)
  · refine s_ci ok rfl ?_
    refine s_retI ok rfl ⟨congrArg (fun z => some (Value.int (iI z))) (by first | exact (if_neg (fun q => zif_f c8 q.1)).symm | exact (if_neg (by omega)).symm | (rw [if_pos ⟨yt, by omega⟩]; first | (rw [if_pos (by omega), h2, show 11 + 2 * t + b = 11 + 2 * t by omega]) | (rw [if_pos (by omega), h3, show 11 + 2 * t + b = 11 + 2 * t + 1 by omega]) | (rw [if_neg (by omega)]; omega))), rfl⟩
  · have yt := zif_t c8
    obtain ⟨h2, h3, h4⟩ := hR.2.2.2.1 t yt.1 yt.2
    have q1 := zbt_01 (p 1) t
    refine s_ldI2 ok rfl ?_
    refine s_sw ok rfl ?_
    refine zsw_c z2 (by first | exact hb _ _ | exact ⟨by omega, by omega⟩) (fun c14 => ?_) (fun c14_0 => ?_)
    · refine s_ldA0 ok rfl ?_
      refine s_getF ok rfl rfl rfl rfl ?_
      refine s_getF ok rfl rfl rfl rfl ?_
      refine s_ldI1 ok rfl ?_
      refine s_iald ok rfl (by exact rfl) (by exact rfl) (by omega) (by omega) ?_
      refine s_retI ok rfl ⟨congrArg (fun z => some (Value.int (iI z))) (by first | exact (if_neg (fun q => zif_f c8 q.1)).symm | exact (if_neg (by omega)).symm | (rw [if_pos ⟨yt, by omega⟩]; first | (rw [if_pos (by omega), h2, show 11 + 2 * t + b = 11 + 2 * t by omega]) | (rw [if_pos (by omega), h3, show 11 + 2 * t + b = 11 + 2 * t + 1 by omega]) | (rw [if_neg (by omega)]; omega))), rfl⟩
    refine zsw_c z2 (by first | exact hb _ _ | exact ⟨by omega, by omega⟩) (fun c14 => ?_) (fun c14_1 => ?_)
    · refine s_ldA0 ok rfl ?_
      refine s_getF ok rfl rfl rfl rfl ?_
      refine s_getF ok rfl rfl rfl rfl ?_
      refine s_ldI1 ok rfl ?_
      refine s_iald ok rfl (by exact rfl) (by exact rfl) (by omega) (by omega) ?_
      refine s_retI ok rfl ⟨congrArg (fun z => some (Value.int (iI z))) (by first | exact (if_neg (fun q => zif_f c8 q.1)).symm | exact (if_neg (by omega)).symm | (rw [if_pos ⟨yt, by omega⟩]; first | (rw [if_pos (by omega), h2, show 11 + 2 * t + b = 11 + 2 * t by omega]) | (rw [if_pos (by omega), h3, show 11 + 2 * t + b = 11 + 2 * t + 1 by omega]) | (rw [if_neg (by omega)]; omega))), rfl⟩
    refine zsw_c z2 (by first | exact hb _ _ | exact ⟨by omega, by omega⟩) (fun c14 => ?_) (fun c14_2 => ?_)
    · refine s_ldA0 ok rfl ?_
      refine s_getF ok rfl rfl rfl rfl ?_
      refine s_getF ok rfl rfl rfl rfl ?_
      refine s_ldI1 ok rfl ?_
      refine s_iald ok rfl (by exact rfl) (by exact rfl) (by omega) (by omega) ?_
      refine s_if_eq ok rfl ⟨by have := zbt_01 (p 1) t; omega, by have := zbt_01 (p 1) t; omega⟩ (fun c69 => ?_) (fun c69 => ?_)
      · refine s_ci ok rfl ?_
        refine s_retI ok rfl ⟨congrArg (fun z => some (Value.int (iI z))) (by first | exact (if_neg (fun q => zif_f c8 q.1)).symm | exact (if_neg (by omega)).symm | (rw [if_pos ⟨yt, by omega⟩]; first | (rw [if_pos (by omega), h2, show 11 + 2 * t + b = 11 + 2 * t by omega]) | (rw [if_pos (by omega), h3, show 11 + 2 * t + b = 11 + 2 * t + 1 by omega]) | (rw [if_neg (by omega)]; omega))), rfl⟩
      · refine s_ci ok rfl ?_
        refine s_goto ok rfl ?_
        refine s_retI ok rfl ⟨congrArg (fun z => some (Value.int (iI z))) (by first | exact (if_neg (fun q => zif_f c8 q.1)).symm | exact (if_neg (by omega)).symm | (rw [if_pos ⟨yt, by omega⟩]; first | (rw [if_pos (by omega), h2, show 11 + 2 * t + b = 11 + 2 * t by omega]) | (rw [if_pos (by omega), h3, show 11 + 2 * t + b = 11 + 2 * t + 1 by omega]) | (rw [if_neg (by omega)]; omega))), rfl⟩
    show zGo _ _ _ _ _ _ 78 _
    refine s_ci ok rfl ?_
    refine s_retI ok rfl ⟨congrArg (fun z => some (Value.int (iI z))) (by first | exact (if_neg (fun q => zif_f c8 q.1)).symm | exact (if_neg (by omega)).symm | (rw [if_pos ⟨yt, by omega⟩]; first | (rw [if_pos (by omega), h2, show 11 + 2 * t + b = 11 + 2 * t by omega]) | (rw [if_pos (by omega), h3, show 11 + 2 * t + b = 11 + 2 * t + 1 by omega]) | (rw [if_neg (by omega)]; omega))), rfl⟩
theorem ct_base11 {E : zE} {d : Nat} {k : Nat → Nat × Nat} {h : Nat → Int → Int} {r : Nat → Int → Option Nat} {l : Nat → Nat → Int64} {n : Nat} {p : Int → Int} (hp : pOK p) (hR : cR 4 5 6 7 8 9 10 11 12 13 k h r n p (-4)) {t b : Int} (zt : zb t) (z2 : zb b) : zCT E (d + 2) M_X11_base [.ref 3, .int (iI (t)), .int (iI (b))] (zJ (k, h, r, l, n)) 0 0 (zV (.int (iI (if (0 ≤ t ∧ t < p 6) ∧ (0 ≤ b ∧ b ≤ 300) then pBa p t else -1))) (zJ (k, (if (0 ≤ t ∧ t < p 6) ∧ (0 ≤ b ∧ b ≤ 300) then zv h 8 (t) (b) else h), r, l, n))) := by
  have ok := ok_X11_base
  refine zCT_of pn_X11_base (Nat.le_of_ble_eq_true rfl) ?_
  show zGo _ _ _ _ _ _ 0 ([some (.ref 3), some (.int (iI (t))), some (.int (iI (b))), none], [], _, _, _)
  have p60 := hp.2.2.2.2.2.2.2.2.2.2.2.2.1
  have p68 := hp.2.2.2.2.2.2.2.2.2.2.2.2.2.1
  have p00 := hp.1
  have p04 := hp.2.1
  refine s_ldA0 ok rfl ?_
  refine s_getF ok rfl rfl rfl rfl ?_
  refine s_ldI1 ok rfl ?_
  refine s_callV ok rfl rfl rfl rfl rfl rfl (ct_isPerson4 (cR4_n hR) p60 p68 zt) ?_
  refine s_if_eq ok rfl zif01 (fun c8 => ?_) (fun c8 => ?_)
  · refine s_ci ok rfl ?_
    first
      | (have no : ¬ ((0 ≤ t ∧ t < p 6) ∧ (0 ≤ b ∧ b ≤ 300)) := fun q => zif_f c8 q.1
         refine s_retI ok rfl ?_
         rw [if_neg no, if_neg no]
         exact ⟨rfl, rfl⟩)
      | (have no : ¬ ((0 ≤ t ∧ t < p 6) ∧ (0 ≤ b ∧ b ≤ 300)) := fun q => zif_f c15 q.2
         refine s_retI ok rfl ?_
         rw [if_neg no, if_neg no]
         exact ⟨rfl, rfl⟩)
      | (refine s_retI ok rfl ?_
         rw [if_pos yes, if_pos yes]
         exact ⟨congrArg (fun z => some (Value.int (iI z))) old, rfl⟩)
  · refine s_ldI2 ok rfl ?_
    refine s_callS ok rfl rfl rfl rfl (ct_pisBase z2) ?_
    refine s_if_eq ok rfl zif01 (fun c15 => ?_) (fun c15 => ?_)
    · refine s_ci ok rfl ?_
      first
        | (have no : ¬ ((0 ≤ t ∧ t < p 6) ∧ (0 ≤ b ∧ b ≤ 300)) := fun q => zif_f c8 q.1
           refine s_retI ok rfl ?_
           rw [if_neg no, if_neg no]
           exact ⟨rfl, rfl⟩)
        | (have no : ¬ ((0 ≤ t ∧ t < p 6) ∧ (0 ≤ b ∧ b ≤ 300)) := fun q => zif_f c15 q.2
           refine s_retI ok rfl ?_
           rw [if_neg no, if_neg no]
           exact ⟨rfl, rfl⟩)
        | (refine s_retI ok rfl ?_
           rw [if_pos yes, if_pos yes]
           exact ⟨congrArg (fun z => some (Value.int (iI z))) old, rfl⟩)
    · have yt := zif_t c8
      obtain ⟨v, hv, wv, h2, h3, h4⟩ := cR4_one hR yt.1 yt.2
      obtain ⟨⟨k0, k1⟩, ⟨f0, f1⟩, ⟨fr0, fr1⟩, ⟨to0, to1⟩, ⟨ba0, ba1⟩⟩ := hp.2.2.2.2.2.2.2.2.2.2.2.2.2.2.2.2 t yt.1 (by omega)
      have yes : (0 ≤ t ∧ t < p 6) ∧ (0 ≤ b ∧ b ≤ 300) := ⟨yt, zif_t c15⟩
      have old := h4
      refine s_ldA0 ok rfl ?_
      refine s_getF ok rfl rfl rfl rfl ?_
      refine s_getF ok rfl rfl rfl rfl ?_
      refine s_ldI1 ok rfl ?_
      refine s_iald ok rfl (by exact rfl) (by exact rfl) (by omega) (by omega) ?_
      refine s_stI3 ok rfl rfl ?_
      refine s_ldA0 ok rfl ?_
      refine s_getF ok rfl rfl rfl rfl ?_
      refine s_getF ok rfl rfl rfl rfl ?_
      refine s_ldI1 ok rfl ?_
      refine s_ldI2 ok rfl ?_
      refine s_iast ok rfl (by exact rfl) (by exact rfl) (by omega) (by omega) (fun q => by cases q) ?_
      refine s_ldI3 ok rfl ?_
      first
        | (have no : ¬ ((0 ≤ t ∧ t < p 6) ∧ (0 ≤ b ∧ b ≤ 300)) := fun q => zif_f c8 q.1
           refine s_retI ok rfl ?_
           rw [if_neg no, if_neg no]
           exact ⟨rfl, rfl⟩)
        | (have no : ¬ ((0 ≤ t ∧ t < p 6) ∧ (0 ≤ b ∧ b ≤ 300)) := fun q => zif_f c15 q.2
           refine s_retI ok rfl ?_
           rw [if_neg no, if_neg no]
           exact ⟨rfl, rfl⟩)
        | (refine s_retI ok rfl ?_
           rw [if_pos yes, if_pos yes]
           exact ⟨congrArg (fun z => some (Value.int (iI z))) old, rfl⟩)
theorem ct_run11 {E : zE} {d : Nat} {k : Nat → Nat × Nat} {h : Nat → Int → Int} {r : Nat → Int → Option Nat} {l : Nat → Nat → Int64} {n : Nat} {p : Int → Int} (hp : pOK p) (hR : cR 4 5 6 7 8 9 10 11 12 13 k h r n p (-4)) {t b : Int} (zt : zb t) (z2 : zb b) : zCT E (d + 1) M_X11_run [.ref 3, .int (iI (t)), .int (iI (b))] (zJ (k, h, r, l, n)) 0 0 (zV (.int (iI (if (0 ≤ t ∧ t ≤ 3) ∧ (1 ≤ b ∧ b ≤ 60) then p (7 + t) else -1))) (zJ (k, (if (0 ≤ t ∧ t ≤ 3) ∧ (1 ≤ b ∧ b ≤ 60) then zv h 12 (t) (b) else h), r, l, n))) := by
  have ok := ok_X11_run
  refine zCT_of pn_X11_run (Nat.le_of_ble_eq_true rfl) ?_
  show zGo _ _ _ _ _ _ 0 ([some (.ref 3), some (.int (iI (t))), some (.int (iI (b))), none], [], _, _, _)
  have p60 := hp.2.2.2.2.2.2.2.2.2.2.2.2.1
  have p68 := hp.2.2.2.2.2.2.2.2.2.2.2.2.2.1
  have p00 := hp.1
  have p04 := hp.2.1
  refine s_ldI1 ok rfl ?_
  refine s_callS ok rfl rfl rfl rfl (ct_pisPiece zt) ?_
  refine s_if_eq ok rfl zif01 (fun c4 => ?_) (fun c4 => ?_)
  · refine s_ci ok rfl ?_
    first
      | (have no : ¬ ((0 ≤ t ∧ t ≤ 3) ∧ (1 ≤ b ∧ b ≤ 60)) := fun q => zif_f c4 q.1
         refine s_retI ok rfl ?_
         rw [if_neg no, if_neg no]
         exact ⟨rfl, rfl⟩)
      | (have no : ¬ ((0 ≤ t ∧ t ≤ 3) ∧ (1 ≤ b ∧ b ≤ 60)) := fun q => zif_f c11 q.2
         refine s_retI ok rfl ?_
         rw [if_neg no, if_neg no]
         exact ⟨rfl, rfl⟩)
      | (refine s_retI ok rfl ?_
         rw [if_pos yes, if_pos yes]
         exact ⟨congrArg (fun z => some (Value.int (iI z))) old, rfl⟩)
  · refine s_ldI2 ok rfl ?_
    refine s_callS ok rfl rfl rfl rfl (ct_pisRun z2) ?_
    refine s_if_eq ok rfl zif01 (fun c11 => ?_) (fun c11 => ?_)
    · refine s_ci ok rfl ?_
      first
        | (have no : ¬ ((0 ≤ t ∧ t ≤ 3) ∧ (1 ≤ b ∧ b ≤ 60)) := fun q => zif_f c4 q.1
           refine s_retI ok rfl ?_
           rw [if_neg no, if_neg no]
           exact ⟨rfl, rfl⟩)
        | (have no : ¬ ((0 ≤ t ∧ t ≤ 3) ∧ (1 ≤ b ∧ b ≤ 60)) := fun q => zif_f c11 q.2
           refine s_retI ok rfl ?_
           rw [if_neg no, if_neg no]
           exact ⟨rfl, rfl⟩)
        | (refine s_retI ok rfl ?_
           rw [if_pos yes, if_pos yes]
           exact ⟨congrArg (fun z => some (Value.int (iI z))) old, rfl⟩)
    · have yt := zif_t c4
      have yes : (0 ≤ t ∧ t ≤ 3) ∧ (1 ≤ b ∧ b ≤ 60) := ⟨yt, zif_t c11⟩
      have old := (hR.2.2.2.2.2 t yt.1 (by omega)).1
      refine s_ldA0 ok rfl ?_
      refine s_getF ok rfl rfl rfl rfl ?_
      refine s_getF ok rfl rfl rfl rfl ?_
      refine s_ldI1 ok rfl ?_
      refine s_iald ok rfl (by exact rfl) (by exact rfl) (by omega) (by omega) ?_
      refine s_stI3 ok rfl rfl ?_
      refine s_ldA0 ok rfl ?_
      refine s_getF ok rfl rfl rfl rfl ?_
      refine s_getF ok rfl rfl rfl rfl ?_
      refine s_ldI1 ok rfl ?_
      refine s_ldI2 ok rfl ?_
      refine s_iast ok rfl (by exact rfl) (by exact rfl) (by omega) (by omega) (fun q => by cases q) ?_
      refine s_ldI3 ok rfl ?_
      first
        | (have no : ¬ ((0 ≤ t ∧ t ≤ 3) ∧ (1 ≤ b ∧ b ≤ 60)) := fun q => zif_f c4 q.1
           refine s_retI ok rfl ?_
           rw [if_neg no, if_neg no]
           exact ⟨rfl, rfl⟩)
        | (have no : ¬ ((0 ≤ t ∧ t ≤ 3) ∧ (1 ≤ b ∧ b ≤ 60)) := fun q => zif_f c11 q.2
           refine s_retI ok rfl ?_
           rw [if_neg no, if_neg no]
           exact ⟨rfl, rfl⟩)
        | (refine s_retI ok rfl ?_
           rw [if_pos yes, if_pos yes]
           exact ⟨congrArg (fun z => some (Value.int (iI z))) old, rfl⟩)
theorem ct_set11 {E : zE} {d : Nat} {k : Nat → Nat × Nat} {h : Nat → Int → Int} {r : Nat → Int → Option Nat} {l : Nat → Nat → Int64} {n : Nat} {p : Int → Int} (hp : pOK p) (hR : cR 4 5 6 7 8 9 10 11 12 13 k h r n p (-4)) (hS : cS k h) {t b : Int} (zt : zb t) (z2 : zb b) : zCT E (d + 1) M_X11_set [.ref 3, .int (iI (t)), .int (iI (b))] (zJ (k, h, r, l, n)) 0 0 (zV (.int (iI (if sRu t b then p (2 + t) else -1))) (zJ (k, (if sRu t b then zv h 13 (t) (b) else h), r, l, n))) := by
  have ok := ok_X11_set
  refine zCT_of pn_X11_set (Nat.le_of_ble_eq_true rfl) ?_
  show zGo _ _ _ _ _ _ 0 ([some (.ref 3), some (.int (iI (t))), some (.int (iI (b))), none], [], _, _, _)
  have p60 := hp.2.2.2.2.2.2.2.2.2.2.2.2.1
  have p68 := hp.2.2.2.2.2.2.2.2.2.2.2.2.2.1
  have p00 := hp.1
  have p04 := hp.2.1
  refine s_ldI1 ok rfl ?_
  refine s_ldI2 ok rfl ?_
  refine s_callS ok rfl rfl rfl rfl (ct_pisRule hS zt z2) ?_
  refine s_if_eq ok rfl zif01 (fun c5 => ?_) (fun c5 => ?_)
  · refine s_ci ok rfl ?_
    first
      | (have no : ¬ (sRu t b) := fun q => zif_f c5 q
         refine s_retI ok rfl ?_
         rw [if_neg no, if_neg no]
         exact ⟨rfl, rfl⟩)
      | (have no : ¬ (sRu t b) := fun q => zif_f c5 q
         refine s_retI ok rfl ?_
         rw [if_neg no, if_neg no]
         exact ⟨rfl, rfl⟩)
      | (refine s_retI ok rfl ?_
         rw [if_pos yes, if_pos yes]
         exact ⟨congrArg (fun z => some (Value.int (iI z))) old, rfl⟩)
  · have yes := zif_t c5
    have tt : 0 ≤ t ∧ t < 4 := by have y2 := yes; unfold sRu at y2; omega
    have old := (hR.2.2.2.2.2 t tt.1 tt.2).2
    refine s_ldA0 ok rfl ?_
    refine s_getF ok rfl rfl rfl rfl ?_
    refine s_getF ok rfl rfl rfl rfl ?_
    refine s_ldI1 ok rfl ?_
    refine s_iald ok rfl (by exact rfl) (by exact rfl) (by omega) (by omega) ?_
    refine s_stI3 ok rfl rfl ?_
    refine s_ldA0 ok rfl ?_
    refine s_getF ok rfl rfl rfl rfl ?_
    refine s_getF ok rfl rfl rfl rfl ?_
    refine s_ldI1 ok rfl ?_
    refine s_ldI2 ok rfl ?_
    refine s_iast ok rfl (by exact rfl) (by exact rfl) (by omega) (by omega) (fun q => by cases q) ?_
    refine s_ldI3 ok rfl ?_
    first
      | (have no : ¬ (sRu t b) := fun q => zif_f c5 q
         refine s_retI ok rfl ?_
         rw [if_neg no, if_neg no]
         exact ⟨rfl, rfl⟩)
      | (have no : ¬ (sRu t b) := fun q => zif_f c5 q
         refine s_retI ok rfl ?_
         rw [if_neg no, if_neg no]
         exact ⟨rfl, rfl⟩)
      | (refine s_retI ok rfl ?_
         rw [if_pos yes, if_pos yes]
         exact ⟨congrArg (fun z => some (Value.int (iI z))) old, rfl⟩)
