/-! the class: fate, together -/
theorem ct_rideOf {E : zE} {d : Nat} {k : Nat → Nat × Nat} {h : Nat → Int → Int} {r : Nat → Int → Option Nat} {l : Nat → Nat → Int64} {n : Nat} {p : Int → Int} (hp : pOK p) (hR : cR 4 5 6 7 8 9 10 11 12 13 k h r n p (-4)) {t a : Int} (za : zb a) (t0 : 0 ≤ t) (t1 : t < p 6) (z0 : 0 ≤ h 44 t) (z1 : h 44 t < 12) : zCT E (d + 6) M_X11_rideOf [.ref 3, .int (iI (t)), .int (iI (a))] (zJ (k, h, r, l, n)) 0 0 (zV (.int (iI (if a = 1 then h 44 t / 3 else if a = 2 then h 44 t % 3 else if a = 3 then h 45 t else if a = 4 then h 46 t else pOf p t))) (zJ (k, h, r, l, n))) := by
  have ok := ok_X11_rideOf
  refine zCT_of pn_X11_rideOf (Nat.le_of_ble_eq_true rfl) ?_
  show zGo _ _ _ _ _ _ 0 ([some (.ref 3), some (.int (iI (t))), some (.int (iI (a)))], [], _, _, _)
  have p68 := hp.2.2.2.2.2.2.2.2.2.2.2.2.2.1
  obtain ⟨v, hv, wv, h2, h3, h4⟩ := cR4_one hR t0 t1
  obtain ⟨⟨k0, k1⟩, ⟨f0, f1⟩, ⟨fr0, fr1⟩, ⟨to0, to1⟩, ⟨ba0, ba1⟩⟩ := hp.2.2.2.2.2.2.2.2.2.2.2.2.2.2.2.2 t t0 (by omega)
  refine s_ldI2 ok rfl ?_
  refine s_sw ok rfl ?_
  refine zsw_c za (by first | exact hb _ _ | exact ⟨by omega, by omega⟩) (fun c1 => ?_) (fun c1_1 => ?_)
  · refine s_ldA0 ok rfl ?_
    refine s_getF ok rfl rfl rfl rfl ?_
    refine s_getF ok rfl rfl rfl rfl ?_
    refine s_ldI1 ok rfl ?_
    refine s_iald ok rfl (by exact rfl) (by exact rfl) (by omega) (by omega) ?_
    refine s_ci ok rfl ?_
    refine s_div ok rfl ⟨by omega, by omega⟩ ⟨by omega, by omega⟩ (by omega) (by omega) ?_
    refine s_retI ok rfl ⟨congrArg (fun z => some (Value.int (iI z))) (by (repeat (first | rw [if_pos (by omega)] | rw [if_neg (by omega)])); first | done | rfl), rfl⟩
  refine zsw_c za (by first | exact hb _ _ | exact ⟨by omega, by omega⟩) (fun c1 => ?_) (fun c1_2 => ?_)
  · refine s_ldA0 ok rfl ?_
    refine s_getF ok rfl rfl rfl rfl ?_
    refine s_getF ok rfl rfl rfl rfl ?_
    refine s_ldI1 ok rfl ?_
    refine s_iald ok rfl (by exact rfl) (by exact rfl) (by omega) (by omega) ?_
    refine s_ci ok rfl ?_
    refine s_rem ok rfl ⟨by omega, by omega⟩ ⟨by omega, by omega⟩ (by omega) (by omega) ?_
    refine s_retI ok rfl ⟨congrArg (fun z => some (Value.int (iI z))) (by (repeat (first | rw [if_pos (by omega)] | rw [if_neg (by omega)])); first | done | rfl), rfl⟩
  refine zsw_c za (by first | exact hb _ _ | exact ⟨by omega, by omega⟩) (fun c1 => ?_) (fun c1_3 => ?_)
  · refine s_ldA0 ok rfl ?_
    refine s_getF ok rfl rfl rfl rfl ?_
    refine s_getF ok rfl rfl rfl rfl ?_
    refine s_ldI1 ok rfl ?_
    refine s_iald ok rfl (by exact rfl) (by exact rfl) (by omega) (by omega) ?_
    refine s_retI ok rfl ⟨congrArg (fun z => some (Value.int (iI z))) (by (repeat (first | rw [if_pos (by omega)] | rw [if_neg (by omega)])); first | done | rfl), rfl⟩
  refine zsw_c za (by first | exact hb _ _ | exact ⟨by omega, by omega⟩) (fun c1 => ?_) (fun c1_4 => ?_)
  · refine s_ldA0 ok rfl ?_
    refine s_getF ok rfl rfl rfl rfl ?_
    refine s_getF ok rfl rfl rfl rfl ?_
    refine s_ldI1 ok rfl ?_
    refine s_iald ok rfl (by exact rfl) (by exact rfl) (by omega) (by omega) ?_
    refine s_retI ok rfl ⟨congrArg (fun z => some (Value.int (iI z))) (by (repeat (first | rw [if_pos (by omega)] | rw [if_neg (by omega)])); first | done | rfl), rfl⟩
  show zGo _ _ _ _ _ _ 76 _
  refine s_ldA0 ok rfl ?_
  refine s_getF ok rfl rfl rfl rfl ?_
  refine s_getF ok rfl rfl rfl rfl ?_
  refine s_ldI1 ok rfl ?_
  refine s_aald ok rfl (by exact rfl) (by exact rfl) (by exact rfl) (by omega) (by omega) hv ?_
  refine s_ldA0 ok rfl ?_
  refine s_getF ok rfl rfl rfl rfl ?_
  refine s_getF ok rfl rfl rfl rfl ?_
  refine s_ldI1 ok rfl ?_
  refine s_iald ok rfl (by exact rfl) (by exact rfl) (by omega) (by omega) ?_
  rw [h3]
  refine s_callD ok rfl rfl rfl rfl (vt_offAt wv (by omega) (by omega)) ?_
  refine s_retI ok rfl ⟨congrArg (fun z => some (Value.int (iI z))) (by (repeat (first | rw [if_pos (by omega)] | rw [if_neg (by omega)])); first | done | rfl), rfl⟩
theorem rFt {p : Int → Int} {dd t a : Int} {g : Nat → Int → Int} (d : tD p (-4) dd g) (t0 : 0 ≤ t) (t1 : t < p 6) (a0 : 1 ≤ a) (a1 : a ≤ 5) : (¬ g 44 t = -1 → (if a = 1 then g 44 t / 3 else if a = 2 then g 44 t % 3 else if a = 3 then g 45 t else if a = 4 then g 46 t else pOf p t) = sFt (dN p (-4) dd) p a t) ∧ (g 44 t = -1 → -4 = sFt (dN p (-4) dd) p a t) := by
  obtain ⟨d1, d2, d3, d4, d5, d6, d7, d8, d9⟩ := tD_one d t0 t1
  refine ⟨fun z => ?_, fun z => ?_⟩
  · have n69 : ¬ dN p (-4) dd 69 t < 0 := fun y => z (d9.mpr y)
    have n71 : ¬ dN p (-4) dd 71 t < 0 := fun y => z (d8.mpr y)
    obtain ⟨e45, e46, -, -⟩ := d2 (by omega)
    rw [if_neg n69] at d1
    rw [d1, e45, e46]
    rcases (by omega : a = 1 ∨ a = 2 ∨ a = 3 ∨ a = 4 ∨ a = 5) with e | e | e | e | e <;> subst e <;> simp [sFt, n71]
  · obtain ⟨e70, e71⟩ := d3 (d9.mp z)
    rcases (by omega : a = 1 ∨ a = 2 ∨ a = 3 ∨ a = 4 ∨ a = 5) with e | e | e | e | e <;> subst e <;> simp [sFt, e70, e71]
theorem ct_fate11 {E : zE} {d : Nat} {k : Nat → Nat × Nat} {h : Nat → Int → Int} {r : Nat → Int → Option Nat} {l : Nat → Nat → Int64} {n : Nat} {p : Int → Int} (hs : pS p) (hR : cR 4 5 6 7 8 9 10 11 12 13 k h r n p (-4)) {t a : Int} (zt : zb t) (za : zb a) : zCT E (d + 9) M_X11_fate [.ref 3, .int (iI (t)), .int (iI (a))] (zJ (k, h, r, l, n)) 0 0 (zVx (.int (iI (if (0 ≤ t ∧ t < p 6) ∧ (0 ≤ a ∧ a ≤ 7) then sFt (dN p (-4) 3) p a t else -1))) (zG k r l n (cF h))) := by
  have ok := ok_X11_fate
  refine zCT_of pn_X11_fate (Nat.le_of_ble_eq_true rfl) ?_
  show zGo _ _ _ _ _ _ 0 ([some (.ref 3), some (.int (iI (t))), some (.int (iI (a)))], [], _, _, _)
  have hp := hs.1
  have hft := hs.2.2.2.1
  have p60 := hp.2.2.2.2.2.2.2.2.2.2.2.2.1
  have p68 := hp.2.2.2.2.2.2.2.2.2.2.2.2.2.1
  have p00 := hp.1
  have p04 := hp.2.1
  have hf : ∀ q : Int, 0 ≤ q → q < p 6 → ¬ pFr p q = 4 := fun q q0 q1 => by have := pOf_gt hp q0 (by omega) (hft q q0 q1); omega
  refine s_ldA0 ok rfl ?_
  refine s_getF ok rfl rfl rfl rfl ?_
  refine s_ldI1 ok rfl ?_
  refine s_callV ok rfl rfl rfl rfl rfl rfl (ct_isPerson4 (cR4_n hR) p60 p68 zt) ?_
  refine s_if_eq ok rfl zif01 (fun c8 => ?_) (fun c8 => ?_)
  · refine s_ci ok rfl ?_
    first
      | exact s_retI ok rfl ⟨congrArg (fun z => some (Value.int (iI z))) (if_neg (fun q => zif_f c8 q.1)).symm, _, rfl, fun _ _ => rfl⟩
      | exact s_retI ok rfl ⟨congrArg (fun z => some (Value.int (iI z))) (if_neg (fun q => absurd q.2 (by omega))).symm, _, rfl, fun _ _ => rfl⟩
  · refine s_ldI2 ok rfl ?_
    refine s_if_lt ok rfl za (fun c12 => ?_) (fun c12 => ?_)
    · refine s_ci ok rfl ?_
      first
        | exact s_retI ok rfl ⟨congrArg (fun z => some (Value.int (iI z))) (if_neg (fun q => zif_f c8 q.1)).symm, _, rfl, fun _ _ => rfl⟩
        | exact s_retI ok rfl ⟨congrArg (fun z => some (Value.int (iI z))) (if_neg (fun q => absurd q.2 (by omega))).symm, _, rfl, fun _ _ => rfl⟩
    · refine s_ldI2 ok rfl ?_
      refine s_ci ok rfl ?_
      refine s_c_le ok rfl za ⟨by omega, by omega⟩ (fun c18 => ?_) (fun c18 => ?_)
      · have yt := zif_t c8
        have yes : (0 ≤ t ∧ t < p 6) ∧ (0 ≤ a ∧ a ≤ 7) := ⟨yt, by omega, by omega⟩
        refine s_ldA0 ok rfl ?_
        refine s_getF ok rfl rfl rfl rfl ?_
        refine s_ldA0 ok rfl ?_
        refine s_getF ok rfl rfl rfl rfl ?_
        refine s_ci ok rfl ?_
        refine s_callVvx ok rfl rfl rfl rfl rfl rfl (ct_go4 (d := d) (p := p) (w := -4) (dd := 3) hp (Or.inr rfl) (Or.inl rfl) hf hR) (fun σ32 hσ32 => ?_)
        obtain ⟨g32, rfl, hg32⟩ := hσ32
        obtain ⟨gf, -, gC, gT, gS⟩ := hg32
        have D := tD_of hp (Or.inl rfl) hft gT gS
        have e37 : g32 37 6 = p 6 := gC.1.trans cnP_4
        have hz44 : ∀ t : Int, 0 ≤ t → t < p 6 → zb (g32 44 t) := fun t t0 t1 => by
          rw [(tD_one D t0 t1).1]
          split
          · exact ⟨by omega, by omega⟩
          · exact (dN_ok (dd := 3) hp (w := -4) ⟨by omega, by omega⟩).2.1 t
        obtain ⟨d1, d2, d3, d4, d5, d6, d7, d8, d9⟩ := tD_one D yt.1 yt.2
        refine s_ldI2 ok rfl ?_
        refine s_if_eq ok rfl za (fun c36 => ?_) (fun c36 => ?_)
        · refine s_ldA0 ok rfl ?_
          refine s_getF ok rfl rfl rfl rfl ?_
          refine s_ldI1 ok rfl ?_
          refine s_callV ok rfl rfl rfl rfl rfl rfl (ct_arrives9 yt.1 (by omega) (hz44 t yt.1 yt.2)) ?_
          refine s_if_eq ok rfl zif10 (fun c47 => ?_) (fun c47 => ?_)
          · refine s_ci ok rfl ?_
            first
              | exact s_retI ok rfl ⟨congrArg (fun z => some (Value.int (iI z))) (by rw [if_pos yes]; unfold sFt; rw [if_pos c36, if_pos (d8.mp (zif_n c47))]), _, rfl, gf⟩
              | exact s_retI ok rfl ⟨congrArg (fun z => some (Value.int (iI z))) (by rw [if_pos yes]; unfold sFt; rw [if_pos c36, if_neg (fun y => zif_m c47 (d8.mpr y))]), _, rfl, gf⟩
          · refine s_ci ok rfl ?_
            refine s_goto ok rfl ?_
            first
              | exact s_retI ok rfl ⟨congrArg (fun z => some (Value.int (iI z))) (by rw [if_pos yes]; unfold sFt; rw [if_pos c36, if_pos (d8.mp (zif_n c47))]), _, rfl, gf⟩
              | exact s_retI ok rfl ⟨congrArg (fun z => some (Value.int (iI z))) (by rw [if_pos yes]; unfold sFt; rw [if_pos c36, if_neg (fun y => zif_m c47 (d8.mpr y))]), _, rfl, gf⟩
        · refine s_ldI2 ok rfl ?_
          refine s_ci ok rfl ?_
          refine s_c_eq ok rfl za ⟨by omega, by omega⟩ (fun c59 => ?_) (fun c59 => ?_)
          · refine s_ldA0 ok rfl ?_
            refine s_getF ok rfl rfl rfl rfl ?_
            refine s_ldI1 ok rfl ?_
            refine s_callV ok rfl rfl rfl rfl rfl rfl (ct_missedBy yt.1 (by omega) (by rw [d5]; exact d7.1) (by rw [d5]; exact d7.2)) ?_
            exact s_retI ok rfl ⟨congrArg (fun z => some (Value.int (iI z))) (by rw [if_pos yes, d5, d6]; unfold sFt; rw [if_neg (by omega), if_neg (by omega), if_neg (by omega), if_neg (by omega), if_neg (by omega), if_neg (by omega), if_pos (by omega)]), _, rfl, gf⟩
          · refine s_ldI2 ok rfl ?_
            refine s_ci ok rfl ?_
            refine s_c_eq ok rfl za ⟨by omega, by omega⟩ (fun c74 => ?_) (fun c74 => ?_)
            · refine s_ldA0 ok rfl ?_
              refine s_getF ok rfl rfl rfl rfl ?_
              refine s_getF ok rfl rfl rfl rfl ?_
              refine s_ldI1 ok rfl ?_
              refine s_iald ok rfl (by exact rfl) (by exact rfl) (by omega) (by omega) ?_
              exact s_retI ok rfl ⟨congrArg (fun z => some (Value.int (iI z))) (by rw [if_pos yes, d4]; unfold sFt; rw [if_neg (by omega), if_neg (by omega), if_neg (by omega), if_neg (by omega), if_neg (by omega), if_neg (by omega), if_neg (by omega)]), _, rfl, gf⟩
            · refine s_ldA0 ok rfl ?_
              refine s_getF ok rfl rfl rfl rfl ?_
              refine s_ldI1 ok rfl ?_
              refine s_callV ok rfl rfl rfl rfl rfl rfl (ct_arrives9 yt.1 (by omega) (hz44 t yt.1 yt.2)) ?_
              refine s_if_eq ok rfl zif10 (fun c95 => ?_) (fun c95 => ?_)
              · refine s_ci ok rfl ?_
                first
                  | exact s_retI ok rfl ⟨congrArg (fun z => some (Value.int (iI z))) (by rw [if_pos yes]; exact (rFt D yt.1 yt.2 (by omega) (by omega)).1 (zif_m c95)), _, rfl, gf⟩
                  | exact s_retI ok rfl ⟨congrArg (fun z => some (Value.int (iI z))) (by rw [if_pos yes]; exact (rFt D yt.1 yt.2 (by omega) (by omega)).2 (zif_n c95)), _, rfl, gf⟩
              · refine s_ldA0 ok rfl ?_
                refine s_ldI1 ok rfl ?_
                refine s_ldI2 ok rfl ?_
                refine s_callV ok rfl rfl rfl rfl rfl rfl (ct_rideOf (d := d + 2) hp (cR4_trip hR (fun q hq => gf q hq)) za yt.1 yt.2 (by have := zif_m c95; have y := d9.mpr; rw [d1]; split <;> omega) (by have := d2; rw [d1]; split <;> omega)) ?_
                refine s_goto ok rfl ?_
                first
                  | exact s_retI ok rfl ⟨congrArg (fun z => some (Value.int (iI z))) (by rw [if_pos yes]; exact (rFt D yt.1 yt.2 (by omega) (by omega)).1 (zif_m c95)), _, rfl, gf⟩
                  | exact s_retI ok rfl ⟨congrArg (fun z => some (Value.int (iI z))) (by rw [if_pos yes]; exact (rFt D yt.1 yt.2 (by omega) (by omega)).2 (zif_n c95)), _, rfl, gf⟩
      · refine s_ci ok rfl ?_
        first
          | exact s_retI ok rfl ⟨congrArg (fun z => some (Value.int (iI z))) (if_neg (fun q => zif_f c8 q.1)).symm, _, rfl, fun _ _ => rfl⟩
          | exact s_retI ok rfl ⟨congrArg (fun z => some (Value.int (iI z))) (if_neg (fun q => absurd q.2 (by omega))).symm, _, rfl, fun _ _ => rfl⟩
