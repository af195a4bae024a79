/-! fate, snow -/
/-- what is told of t's day -/
def sFt (g : Nat → Int → Int) (q : Int → Int) (a t : Int) : Int := if a = 0 then (if g 71 t < 0 then 0 else 1) else if a = 1 then (if g 71 t < 0 then -4 else g 69 t / 3) else if a = 2 then (if g 71 t < 0 then -4 else g 69 t % 3) else if a = 3 then g 70 t else if a = 4 then g 71 t else if a = 5 then (if g 71 t < 0 then -4 else pOf q t) else if a = 6 then g 73 t else g 74 t
theorem ct_fate {E : zE} {d : Nat} {k : Nat → Nat × Nat} {h : Nat → Int → Int} {r : Nat → Int → Option Nat} {l : Nat → Nat → Int64} {n : Nat} {p : Int → Int} {w dd : Int} (ep : h 60 = p) (ew : h 59 17 = w) (ed : h 59 18 = dd) (hd : dP h) (h2 : zb dd) {t a : Int} (zt : zb t) (za : zb a) : zCT E (d + 7) M_X12_fate [.ref 59, .int (iI (t)), .int (iI (a))] (zJ (k, h, r, l, n)) 0 0 (zVx (.int (iI (if (0 ≤ t ∧ t < p 6) ∧ (0 ≤ a ∧ a ≤ 7) then sFt (dN p w dd) p a t else -1))) (zG k r l n (dE h))) := by
  have ok := ok_X12_fate
  refine zCT_of pn_X12_fate (Nat.le_of_ble_eq_true rfl) ?_
  show zGo _ _ _ _ _ _ 0 ([some (.ref 59), some (.int (iI (t))), some (.int (iI (a))), none], [], _, _, _)
  subst ep
  subst ew
  subst ed
  refine s_ldA0 ok rfl ?_
  refine s_ldI1 ok rfl ?_
  refine s_callV ok rfl rfl rfl rfl rfl rfl (ct_isTraveller hd.1 zt) ?_
  refine s_if_eq ok rfl zif01 (fun c5 => ?_) (fun c5 => ?_)
  · refine s_ci ok rfl ?_
    refine s_retI ok rfl ⟨congrArg (fun z => some (Value.int (iI z))) (if_neg (fun q => by first | exact zif_f c15 q.2 | exact zif_f c5 q.1)).symm, _, rfl, dE.rf hd⟩
  · refine s_ldI2 ok rfl ?_
    refine s_ci ok rfl ?_
    refine s_ci ok rfl ?_
    refine s_callS ok rfl rfl rfl rfl (ct_isIn za ⟨by omega, by omega⟩ ⟨by omega, by omega⟩) ?_
    refine s_if_eq ok rfl zif01 (fun c15 => ?_) (fun c15 => ?_)
    · refine s_ci ok rfl ?_
      refine s_retI ok rfl ⟨congrArg (fun z => some (Value.int (iI z))) (if_neg (fun q => by first | exact zif_f c15 q.2 | exact zif_f c5 q.1)).symm, _, rfl, dE.rf hd⟩
    · have yt := zif_t c5
      have ya := zif_t c15
      obtain ⟨hE, hD⟩ := dE_goes hd
      have t1 : t < 8 := by have := hd.1.2.2.2.2.2.2.2.2.2.2.2.2.2.1; omega
      have bb := (dB_dN (dd := h 59 18) hd.1 hd.2.2.2.2 t)
      have bo := dOn_dN (p := h 60) (w := h 59 17) (dd := h 59 18) t
      have e60 := hE.e60
      have e69 : sGoes h 69 t = dN (h 60) (h 59 17) (h 59 18) 69 t := hD.1 69 (by omega) (by omega) t yt.1 yt.2
      have e70 : sGoes h 70 t = dN (h 60) (h 59 17) (h 59 18) 70 t := hD.1 70 (by omega) (by omega) t yt.1 yt.2
      have e71 : sGoes h 71 t = dN (h 60) (h 59 17) (h 59 18) 71 t := hD.1 71 (by omega) (by omega) t yt.1 yt.2
      have e73 : sGoes h 73 t = dN (h 60) (h 59 17) (h 59 18) 73 t := hD.1 73 (by omega) (by omega) t yt.1 yt.2
      have e74 : sGoes h 74 t = dN (h 60) (h 59 17) (h 59 18) 74 t := hD.1 74 (by omega) (by omega) t yt.1 yt.2
      generalize dN (h 60) (h 59 17) (h 59 18) = D at *
      refine s_ldA0 ok rfl ?_
      refine s_callVv ok rfl rfl rfl rfl rfl rfl (ct_goes hd (by exact h2)) ?_
      refine s_ldA0 ok rfl ?_
      refine s_getF ok rfl rfl rfl rfl ?_
      refine s_ldI1 ok rfl ?_
      refine s_iald ok rfl (by exact rfl) (by exact rfl) (by omega) (by omega) ?_
      rw [e71]
      refine s_if_lt ok rfl (by first | exact hb _ _ | exact ⟨by omega, by omega⟩) (fun c30 => ?_) (fun c30 => ?_)
      · refine s_ci ok rfl ?_
        refine s_stI3 ok rfl rfl ?_
        refine s_ldI2 ok rfl ?_
        refine s_sw ok rfl ?_
        refine zsw_c (by first | exact hb _ _ | exact ⟨by omega, by omega⟩) (by first | exact hb _ _ | exact ⟨by omega, by omega⟩) (fun c40 => ?_) (fun c40_0 => ?_)
        · refine s_ldI3 ok rfl ?_
          refine s_if_eq ok rfl (by first | exact hb _ _ | exact ⟨by omega, by omega⟩) (fun c85 => ?_) (fun c85 => ?_)
          · refine s_ci ok rfl ?_
            refine s_retI ok rfl ⟨congrArg (fun z => some (Value.int (iI z))) (by first | (exfalso; omega) | (rw [if_pos (And.intro yt ya)]; unfold sFt; (repeat (first | rw [if_pos (by omega)] | rw [if_neg (by omega)])); done)), _, rfl, hE⟩
          · refine s_ci ok rfl ?_
            refine s_goto ok rfl ?_
            refine s_retI ok rfl ⟨congrArg (fun z => some (Value.int (iI z))) (by first | (exfalso; omega) | (rw [if_pos (And.intro yt ya)]; unfold sFt; (repeat (first | rw [if_pos (by omega)] | rw [if_neg (by omega)])); done)), _, rfl, hE⟩
        refine zsw_c (by first | exact hb _ _ | exact ⟨by omega, by omega⟩) (by first | exact hb _ _ | exact ⟨by omega, by omega⟩) (fun c40 => ?_) (fun c40_1 => ?_)
        · refine s_ldI3 ok rfl ?_
          refine s_if_eq ok rfl (by first | exact hb _ _ | exact ⟨by omega, by omega⟩) (fun c95 => ?_) (fun c95 => ?_)
          · refine s_ci ok rfl ?_
            refine s_retI ok rfl ⟨congrArg (fun z => some (Value.int (iI z))) (by first | (exfalso; omega) | (rw [if_pos (And.intro yt ya)]; unfold sFt; (repeat (first | rw [if_pos (by omega)] | rw [if_neg (by omega)])); done)), _, rfl, hE⟩
          · refine s_ldA0 ok rfl ?_
            refine s_getF ok rfl rfl rfl rfl ?_
            refine s_ldI1 ok rfl ?_
            refine s_iald ok rfl (by exact rfl) (by exact rfl) (by omega) (by omega) ?_
            refine s_ci ok rfl ?_
            rw [e69]
            refine s_div ok rfl ⟨by omega, by omega⟩ ⟨by omega, by omega⟩ (by omega) (by omega) ?_
            refine s_goto ok rfl ?_
            refine s_retI ok rfl ⟨congrArg (fun z => some (Value.int (iI z))) (by first | (exfalso; omega) | (rw [if_pos (And.intro yt ya)]; unfold sFt; (repeat (first | rw [if_pos (by omega)] | rw [if_neg (by omega)])); done)), _, rfl, hE⟩
        refine zsw_c (by first | exact hb _ _ | exact ⟨by omega, by omega⟩) (by first | exact hb _ _ | exact ⟨by omega, by omega⟩) (fun c40 => ?_) (fun c40_2 => ?_)
        · refine s_ldI3 ok rfl ?_
          refine s_if_eq ok rfl (by first | exact hb _ _ | exact ⟨by omega, by omega⟩) (fun c113 => ?_) (fun c113 => ?_)
          · refine s_ci ok rfl ?_
            refine s_retI ok rfl ⟨congrArg (fun z => some (Value.int (iI z))) (by first | (exfalso; omega) | (rw [if_pos (And.intro yt ya)]; unfold sFt; (repeat (first | rw [if_pos (by omega)] | rw [if_neg (by omega)])); done)), _, rfl, hE⟩
          · refine s_ldA0 ok rfl ?_
            refine s_getF ok rfl rfl rfl rfl ?_
            refine s_ldI1 ok rfl ?_
            refine s_iald ok rfl (by exact rfl) (by exact rfl) (by omega) (by omega) ?_
            refine s_ci ok rfl ?_
            rw [e69]
            refine s_rem ok rfl ⟨by omega, by omega⟩ ⟨by omega, by omega⟩ (by omega) (by omega) ?_
            refine s_goto ok rfl ?_
            refine s_retI ok rfl ⟨congrArg (fun z => some (Value.int (iI z))) (by first | (exfalso; omega) | (rw [if_pos (And.intro yt ya)]; unfold sFt; (repeat (first | rw [if_pos (by omega)] | rw [if_neg (by omega)])); done)), _, rfl, hE⟩
        refine zsw_c (by first | exact hb _ _ | exact ⟨by omega, by omega⟩) (by first | exact hb _ _ | exact ⟨by omega, by omega⟩) (fun c40 => ?_) (fun c40_3 => ?_)
        · refine s_ldA0 ok rfl ?_
          refine s_getF ok rfl rfl rfl rfl ?_
          refine s_ldI1 ok rfl ?_
          refine s_iald ok rfl (by exact rfl) (by exact rfl) (by omega) (by omega) ?_
          rw [e70]
          refine s_retI ok rfl ⟨congrArg (fun z => some (Value.int (iI z))) (by first | (exfalso; omega) | (rw [if_pos (And.intro yt ya)]; unfold sFt; (repeat (first | rw [if_pos (by omega)] | rw [if_neg (by omega)])); done)), _, rfl, hE⟩
        refine zsw_c (by first | exact hb _ _ | exact ⟨by omega, by omega⟩) (by first | exact hb _ _ | exact ⟨by omega, by omega⟩) (fun c40 => ?_) (fun c40_4 => ?_)
        · refine s_ldA0 ok rfl ?_
          refine s_getF ok rfl rfl rfl rfl ?_
          refine s_ldI1 ok rfl ?_
          refine s_iald ok rfl (by exact rfl) (by exact rfl) (by omega) (by omega) ?_
          rw [e71]
          refine s_retI ok rfl ⟨congrArg (fun z => some (Value.int (iI z))) (by first | (exfalso; omega) | (rw [if_pos (And.intro yt ya)]; unfold sFt; (repeat (first | rw [if_pos (by omega)] | rw [if_neg (by omega)])); done)), _, rfl, hE⟩
        refine zsw_c (by first | exact hb _ _ | exact ⟨by omega, by omega⟩) (by first | exact hb _ _ | exact ⟨by omega, by omega⟩) (fun c40 => ?_) (fun c40_5 => ?_)
        · refine s_ldI3 ok rfl ?_
          refine s_if_eq ok rfl (by first | exact hb _ _ | exact ⟨by omega, by omega⟩) (fun c145 => ?_) (fun c145 => ?_)
          · refine s_ci ok rfl ?_
            refine s_retI ok rfl ⟨congrArg (fun z => some (Value.int (iI z))) (by first | (exfalso; omega) | (rw [if_pos (And.intro yt ya)]; unfold sFt; (repeat (first | rw [if_pos (by omega)] | rw [if_neg (by omega)])); done)), _, rfl, hE⟩
          · refine s_ldA0 ok rfl ?_
            refine s_ldI1 ok rfl ?_
            refine s_callV ok rfl rfl rfl rfl rfl rfl (ct_offOf (by rw [hE.e60]; exact hd.1) yt.1 t1) ?_
            rw [e60]
            refine s_goto ok rfl ?_
            refine s_retI ok rfl ⟨congrArg (fun z => some (Value.int (iI z))) (by first | (exfalso; omega) | (rw [if_pos (And.intro yt ya)]; unfold sFt; (repeat (first | rw [if_pos (by omega)] | rw [if_neg (by omega)])); done)), _, rfl, hE⟩
        refine zsw_c (by first | exact hb _ _ | exact ⟨by omega, by omega⟩) (by first | exact hb _ _ | exact ⟨by omega, by omega⟩) (fun c40 => ?_) (fun c40_6 => ?_)
        · refine s_ldA0 ok rfl ?_
          refine s_getF ok rfl rfl rfl rfl ?_
          refine s_ldI1 ok rfl ?_
          refine s_iald ok rfl (by exact rfl) (by exact rfl) (by omega) (by omega) ?_
          rw [e73]
          refine s_retI ok rfl ⟨congrArg (fun z => some (Value.int (iI z))) (by first | (exfalso; omega) | (rw [if_pos (And.intro yt ya)]; unfold sFt; (repeat (first | rw [if_pos (by omega)] | rw [if_neg (by omega)])); done)), _, rfl, hE⟩
        show zGo _ _ _ _ _ _ 166 _
        refine s_ldA0 ok rfl ?_
        refine s_getF ok rfl rfl rfl rfl ?_
        refine s_ldI1 ok rfl ?_
        refine s_iald ok rfl (by exact rfl) (by exact rfl) (by omega) (by omega) ?_
        rw [e74]
        refine s_retI ok rfl ⟨congrArg (fun z => some (Value.int (iI z))) (by first | (exfalso; omega) | (rw [if_pos (And.intro yt ya)]; unfold sFt; (repeat (first | rw [if_pos (by omega)] | rw [if_neg (by omega)])); done)), _, rfl, hE⟩
      · refine s_ci ok rfl ?_
        refine s_goto ok rfl ?_
        refine s_stI3 ok rfl rfl ?_
        refine s_ldI2 ok rfl ?_
        refine s_sw ok rfl ?_
        refine zsw_c (by first | exact hb _ _ | exact ⟨by omega, by omega⟩) (by first | exact hb _ _ | exact ⟨by omega, by omega⟩) (fun c40 => ?_) (fun c40_0 => ?_)
        · refine s_ldI3 ok rfl ?_
          refine s_if_eq ok rfl (by first | exact hb _ _ | exact ⟨by omega, by omega⟩) (fun c85 => ?_) (fun c85 => ?_)
          · refine s_ci ok rfl ?_
            refine s_retI ok rfl ⟨congrArg (fun z => some (Value.int (iI z))) (by first | (exfalso; omega) | (rw [if_pos (And.intro yt ya)]; unfold sFt; (repeat (first | rw [if_pos (by omega)] | rw [if_neg (by omega)])); done)), _, rfl, hE⟩
          · refine s_ci ok rfl ?_
            refine s_goto ok rfl ?_
            refine s_retI ok rfl ⟨congrArg (fun z => some (Value.int (iI z))) (by first | (exfalso; omega) | (rw [if_pos (And.intro yt ya)]; unfold sFt; (repeat (first | rw [if_pos (by omega)] | rw [if_neg (by omega)])); done)), _, rfl, hE⟩
        refine zsw_c (by first | exact hb _ _ | exact ⟨by omega, by omega⟩) (by first | exact hb _ _ | exact ⟨by omega, by omega⟩) (fun c40 => ?_) (fun c40_1 => ?_)
        · refine s_ldI3 ok rfl ?_
          refine s_if_eq ok rfl (by first | exact hb _ _ | exact ⟨by omega, by omega⟩) (fun c95 => ?_) (fun c95 => ?_)
          · refine s_ci ok rfl ?_
            refine s_retI ok rfl ⟨congrArg (fun z => some (Value.int (iI z))) (by first | (exfalso; omega) | (rw [if_pos (And.intro yt ya)]; unfold sFt; (repeat (first | rw [if_pos (by omega)] | rw [if_neg (by omega)])); done)), _, rfl, hE⟩
          · refine s_ldA0 ok rfl ?_
            refine s_getF ok rfl rfl rfl rfl ?_
            refine s_ldI1 ok rfl ?_
            refine s_iald ok rfl (by exact rfl) (by exact rfl) (by omega) (by omega) ?_
            refine s_ci ok rfl ?_
            rw [e69]
            refine s_div ok rfl ⟨by omega, by omega⟩ ⟨by omega, by omega⟩ (by omega) (by omega) ?_
            refine s_goto ok rfl ?_
            refine s_retI ok rfl ⟨congrArg (fun z => some (Value.int (iI z))) (by first | (exfalso; omega) | (rw [if_pos (And.intro yt ya)]; unfold sFt; (repeat (first | rw [if_pos (by omega)] | rw [if_neg (by omega)])); done)), _, rfl, hE⟩
        refine zsw_c (by first | exact hb _ _ | exact ⟨by omega, by omega⟩) (by first | exact hb _ _ | exact ⟨by omega, by omega⟩) (fun c40 => ?_) (fun c40_2 => ?_)
        · refine s_ldI3 ok rfl ?_
          refine s_if_eq ok rfl (by first | exact hb _ _ | exact ⟨by omega, by omega⟩) (fun c113 => ?_) (fun c113 => ?_)
          · refine s_ci ok rfl ?_
            refine s_retI ok rfl ⟨congrArg (fun z => some (Value.int (iI z))) (by first | (exfalso; omega) | (rw [if_pos (And.intro yt ya)]; unfold sFt; (repeat (first | rw [if_pos (by omega)] | rw [if_neg (by omega)])); done)), _, rfl, hE⟩
          · refine s_ldA0 ok rfl ?_
            refine s_getF ok rfl rfl rfl rfl ?_
            refine s_ldI1 ok rfl ?_
            refine s_iald ok rfl (by exact rfl) (by exact rfl) (by omega) (by omega) ?_
            refine s_ci ok rfl ?_
            rw [e69]
            refine s_rem ok rfl ⟨by omega, by omega⟩ ⟨by omega, by omega⟩ (by omega) (by omega) ?_
            refine s_goto ok rfl ?_
            refine s_retI ok rfl ⟨congrArg (fun z => some (Value.int (iI z))) (by first | (exfalso; omega) | (rw [if_pos (And.intro yt ya)]; unfold sFt; (repeat (first | rw [if_pos (by omega)] | rw [if_neg (by omega)])); done)), _, rfl, hE⟩
        refine zsw_c (by first | exact hb _ _ | exact ⟨by omega, by omega⟩) (by first | exact hb _ _ | exact ⟨by omega, by omega⟩) (fun c40 => ?_) (fun c40_3 => ?_)
        · refine s_ldA0 ok rfl ?_
          refine s_getF ok rfl rfl rfl rfl ?_
          refine s_ldI1 ok rfl ?_
          refine s_iald ok rfl (by exact rfl) (by exact rfl) (by omega) (by omega) ?_
          rw [e70]
          refine s_retI ok rfl ⟨congrArg (fun z => some (Value.int (iI z))) (by first | (exfalso; omega) | (rw [if_pos (And.intro yt ya)]; unfold sFt; (repeat (first | rw [if_pos (by omega)] | rw [if_neg (by omega)])); done)), _, rfl, hE⟩
        refine zsw_c (by first | exact hb _ _ | exact ⟨by omega, by omega⟩) (by first | exact hb _ _ | exact ⟨by omega, by omega⟩) (fun c40 => ?_) (fun c40_4 => ?_)
        · refine s_ldA0 ok rfl ?_
          refine s_getF ok rfl rfl rfl rfl ?_
          refine s_ldI1 ok rfl ?_
          refine s_iald ok rfl (by exact rfl) (by exact rfl) (by omega) (by omega) ?_
          rw [e71]
          refine s_retI ok rfl ⟨congrArg (fun z => some (Value.int (iI z))) (by first | (exfalso; omega) | (rw [if_pos (And.intro yt ya)]; unfold sFt; (repeat (first | rw [if_pos (by omega)] | rw [if_neg (by omega)])); done)), _, rfl, hE⟩
        refine zsw_c (by first | exact hb _ _ | exact ⟨by omega, by omega⟩) (by first | exact hb _ _ | exact ⟨by omega, by omega⟩) (fun c40 => ?_) (fun c40_5 => ?_)
        · refine s_ldI3 ok rfl ?_
          refine s_if_eq ok rfl (by first | exact hb _ _ | exact ⟨by omega, by omega⟩) (fun c145 => ?_) (fun c145 => ?_)
          · refine s_ci ok rfl ?_
            refine s_retI ok rfl ⟨congrArg (fun z => some (Value.int (iI z))) (by first | (exfalso; omega) | (rw [if_pos (And.intro yt ya)]; unfold sFt; (repeat (first | rw [if_pos (by omega)] | rw [if_neg (by omega)])); done)), _, rfl, hE⟩
          · refine s_ldA0 ok rfl ?_
            refine s_ldI1 ok rfl ?_
            refine s_callV ok rfl rfl rfl rfl rfl rfl (ct_offOf (by rw [hE.e60]; exact hd.1) yt.1 t1) ?_
            rw [e60]
            refine s_goto ok rfl ?_
            refine s_retI ok rfl ⟨congrArg (fun z => some (Value.int (iI z))) (by first | (exfalso; omega) | (rw [if_pos (And.intro yt ya)]; unfold sFt; (repeat (first | rw [if_pos (by omega)] | rw [if_neg (by omega)])); done)), _, rfl, hE⟩
        refine zsw_c (by first | exact hb _ _ | exact ⟨by omega, by omega⟩) (by first | exact hb _ _ | exact ⟨by omega, by omega⟩) (fun c40 => ?_) (fun c40_6 => ?_)
        · refine s_ldA0 ok rfl ?_
          refine s_getF ok rfl rfl rfl rfl ?_
          refine s_ldI1 ok rfl ?_
          refine s_iald ok rfl (by exact rfl) (by exact rfl) (by omega) (by omega) ?_
          rw [e73]
          refine s_retI ok rfl ⟨congrArg (fun z => some (Value.int (iI z))) (by first | (exfalso; omega) | (rw [if_pos (And.intro yt ya)]; unfold sFt; (repeat (first | rw [if_pos (by omega)] | rw [if_neg (by omega)])); done)), _, rfl, hE⟩
        show zGo _ _ _ _ _ _ 166 _
        refine s_ldA0 ok rfl ?_
        refine s_getF ok rfl rfl rfl rfl ?_
        refine s_ldI1 ok rfl ?_
        refine s_iald ok rfl (by exact rfl) (by exact rfl) (by omega) (by omega) ?_
        rw [e74]
        refine s_retI ok rfl ⟨congrArg (fun z => some (Value.int (iI z))) (by first | (exfalso; omega) | (rw [if_pos (And.intro yt ya)]; unfold sFt; (repeat (first | rw [if_pos (by omega)] | rw [if_neg (by omega)])); done)), _, rfl, hE⟩
/-- the first c runs longer by v -/
def zpn (p : Int → Int) (v : Int) (c : Int) : Int → Int := fun j => if 7 ≤ j ∧ j < 7 + c then p j + v else p j
theorem zpn_s {p : Int → Int} {v : Int} {c : Nat} : zp (zpn p v c) (7 + c) (zpn p v c (7 + c) + v) = zpn p v ((c + 1 : Nat) : Int) := by
  funext j
  unfold zp
  split
  · rename_i e
    unfold zpn
    rw [if_neg (by omega), if_pos (by omega), e]
  · unfold zpn
    by_cases q : 7 ≤ j ∧ j < 7 + (c : Int)
    · rw [if_pos q, if_pos (show 7 ≤ j ∧ j < 7 + ((c + 1 : Nat) : Int) by omega)]
    · rw [if_neg q, if_neg (show ¬ (7 ≤ j ∧ j < 7 + ((c + 1 : Nat) : Int)) by omega)]
theorem pOK_snow {p : Int → Int} (hp : pOK p) {v : Int} (v0 : 0 ≤ v) (v1 : v ≤ 30) (hr : ∀ j : Int, 7 ≤ j → j < 11 → p j ≤ 60) : pOK (zpn p v 4) := by
  have e : ∀ j, ¬ (7 ≤ j ∧ j < 7 + 4) → zpn p v 4 j = p j := fun j hj => if_neg hj
  obtain ⟨a0, a1, a2, a3, a4, a5, a6, a7, a8, a9, b0, b1, b2, b3, c1, c2, c3⟩ := hp
  refine ⟨?_, ?_, ?_, ?_, ?_, ?_, ?_, ?_, ?_, ?_, ?_, ?_, ?_, ?_, fun i i0 i1 => ?_, fun i i0 i1 => ?_, fun s s0 s1 => ?_⟩
  iterate 14 (rw [e _ (by omega)]; assumption)
  · have := c1 i i0 i1
    have := hr i i0 i1
    unfold zpn
    rw [if_pos ⟨i0, by omega⟩]
    omega
  · rw [e _ (by omega), e _ (by omega)]
    exact c2 i i0 i1
  · have := c3 s s0 s1
    unfold pK pF pFr pTo pBa at *
    rw [e _ (by omega), e _ (by omega), e _ (by omega), e _ (by omega), e _ (by omega)]
    exact this
