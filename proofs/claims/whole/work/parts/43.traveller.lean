/-! traveller -/
def sTv (p : Int → Int) (t a : Int) : Int := if 0 ≤ a ∧ a ≤ 4 then p (19 + 5 * t + a) else if a = 5 then pCm p t else if a = 6 then pEx p t else if a = 7 then pRk p t else if a = 8 then pPl p t else if a = 9 then pOf p t else -1
theorem ct_traveller {E : zE} {d : Nat} {k : Nat → Nat × Nat} {h : Nat → Int → Int} {r : Nat → Int → Option Nat} {l : Nat → Nat → Int64} {n : Nat} (hp : pOK (h 60)) {t a : Int} (zt : zb t) (z2 : zb a) : zCT E (d + 2) M_X12_traveller [.ref 59, .int (iI (t)), .int (iI (a))] (zJ (k, h, r, l, n)) 0 0 (zV (.int (iI (if 0 ≤ t ∧ t < h 60 6 then sTv (h 60) t a else -1))) (zJ (k, h, r, l, n))) := by
  have ok := ok_X12_traveller
  refine zCT_of pn_X12_traveller (Nat.le_of_ble_eq_true rfl) ?_
  show zGo _ _ _ _ _ _ 0 ([some (.ref 59), some (.int (iI (t))), some (.int (iI (a)))], [], _, _, _)
  refine s_ldA0 ok rfl ?_
  refine s_ldI1 ok rfl ?_
  refine s_callV ok rfl rfl rfl rfl rfl rfl (ct_isTraveller hp zt) ?_
  refine s_if_eq ok rfl zif01 (fun c5 => ?_) (fun c5 => ?_)
  · refine s_ci ok rfl ?_
    refine s_retI ok rfl ⟨congrArg (fun z => some (Value.int (iI z))) (by first | exact (if_neg (fun q => zif_f c5 q)).symm | (rw [if_pos yt]; unfold sTv; (repeat (first | rw [if_pos (by omega)] | rw [if_neg (by omega)])); first | rfl | done)), rfl⟩
  · have yt := zif_t c5
    have t1 : t < 8 := by have := hp.2.2.2.2.2.2.2.2.2.2.2.2.2.1; omega
    obtain ⟨⟨k0, k1⟩, ⟨f0, f1⟩, -⟩ := hp.2.2.2.2.2.2.2.2.2.2.2.2.2.2.2.2 t yt.1 t1
    refine s_ldI2 ok rfl ?_
    refine s_ci ok rfl ?_
    refine s_ci ok rfl ?_
    refine s_callS ok rfl rfl rfl rfl (ct_isIn z2 ⟨by omega, by omega⟩ ⟨by omega, by omega⟩) ?_
    refine s_if_eq ok rfl zif01 (fun c16 => ?_) (fun c16 => ?_)
    · have ya := zif_f c16
      refine s_ldI2 ok rfl ?_
      refine s_sw ok rfl ?_
      refine zsw_c z2 (by first | exact hb _ _ | exact ⟨by omega, by omega⟩) (fun c34 => ?_) (fun c34_5 => ?_)
      · refine s_ldA0 ok rfl ?_
        refine s_ldI1 ok rfl ?_
        refine s_callV ok rfl rfl rfl rfl rfl rfl (ct_comesAt hp yt.1 t1) ?_
        refine s_retI ok rfl ⟨congrArg (fun z => some (Value.int (iI z))) (by first | exact (if_neg (fun q => zif_f c5 q)).symm | (rw [if_pos yt]; unfold sTv; (repeat (first | rw [if_pos (by omega)] | rw [if_neg (by omega)])); first | rfl | done)), rfl⟩
      refine zsw_c z2 (by first | exact hb _ _ | exact ⟨by omega, by omega⟩) (fun c34 => ?_) (fun c34_6 => ?_)
      · refine s_ldA0 ok rfl ?_
        refine s_ldI1 ok rfl ?_
        refine s_callV ok rfl rfl rfl rfl rfl rfl (ct_kind yt.1 t1) ?_
        refine s_ldA0 ok rfl ?_
        refine s_ldI1 ok rfl ?_
        refine s_callV ok rfl rfl rfl rfl rfl rfl (ct_figure yt.1 t1) ?_
        refine s_callS ok rfl rfl rfl rfl (ct_excuseBy (by omega) (by omega) (by omega) (by omega)) ?_
        refine s_retI ok rfl ⟨congrArg (fun z => some (Value.int (iI z))) (by first | exact (if_neg (fun q => zif_f c5 q)).symm | (rw [if_pos yt]; unfold sTv; (repeat (first | rw [if_pos (by omega)] | rw [if_neg (by omega)])); first | rfl | done)), rfl⟩
      refine zsw_c z2 (by first | exact hb _ _ | exact ⟨by omega, by omega⟩) (fun c34 => ?_) (fun c34_7 => ?_)
      · refine s_ldA0 ok rfl ?_
        refine s_ldI1 ok rfl ?_
        refine s_callV ok rfl rfl rfl rfl rfl rfl (ct_rankOf hp yt.1 t1) ?_
        refine s_retI ok rfl ⟨congrArg (fun z => some (Value.int (iI z))) (by first | exact (if_neg (fun q => zif_f c5 q)).symm | (rw [if_pos yt]; unfold sTv; (repeat (first | rw [if_pos (by omega)] | rw [if_neg (by omega)])); first | rfl | done)), rfl⟩
      refine zsw_c z2 (by first | exact hb _ _ | exact ⟨by omega, by omega⟩) (fun c34 => ?_) (fun c34_8 => ?_)
      · refine s_ldA0 ok rfl ?_
        refine s_ldI1 ok rfl ?_
        refine s_callV ok rfl rfl rfl rfl rfl rfl (ct_placesOf hp yt.1 t1) ?_
        refine s_retI ok rfl ⟨congrArg (fun z => some (Value.int (iI z))) (by first | exact (if_neg (fun q => zif_f c5 q)).symm | (rw [if_pos yt]; unfold sTv; (repeat (first | rw [if_pos (by omega)] | rw [if_neg (by omega)])); first | rfl | done)), rfl⟩
      refine zsw_c z2 (by first | exact hb _ _ | exact ⟨by omega, by omega⟩) (fun c34 => ?_) (fun c34_9 => ?_)
      · refine s_ldA0 ok rfl ?_
        refine s_ldI1 ok rfl ?_
        refine s_callV ok rfl rfl rfl rfl rfl rfl (ct_offOf hp yt.1 t1) ?_
        refine s_retI ok rfl ⟨congrArg (fun z => some (Value.int (iI z))) (by first | exact (if_neg (fun q => zif_f c5 q)).symm | (rw [if_pos yt]; unfold sTv; (repeat (first | rw [if_pos (by omega)] | rw [if_neg (by omega)])); first | rfl | done)), rfl⟩
      show zGo _ _ _ _ _ _ 106 _
      refine s_ci ok rfl ?_
      refine s_retI ok rfl ⟨congrArg (fun z => some (Value.int (iI z))) (by first | exact (if_neg (fun q => zif_f c5 q)).symm | (rw [if_pos yt]; unfold sTv; (repeat (first | rw [if_pos (by omega)] | rw [if_neg (by omega)])); first | rfl | done)), rfl⟩
    · have ya := zif_t c16
      refine s_ldA0 ok rfl ?_
      refine s_getF ok rfl rfl rfl rfl ?_
      refine s_ci ok rfl ?_
      refine s_ci ok rfl ?_
      refine s_ldI1 ok rfl ?_
      refine s_mul ok rfl ?_
      refine s_add ok rfl ?_
      refine s_ldI2 ok rfl ?_
      refine s_add ok rfl ?_
      refine s_iald ok rfl (by exact rfl) (by exact rfl) (by omega) (by omega) ?_
      refine s_retI ok rfl ⟨congrArg (fun z => some (Value.int (iI z))) (by first | exact (if_neg (fun q => zif_f c5 q)).symm | (rw [if_pos yt]; unfold sTv; (repeat (first | rw [if_pos (by omega)] | rw [if_neg (by omega)])); first | rfl | done)), rfl⟩
