/-! the class: train, comes, leaves -/
theorem ct_train11 {E : zE} {d : Nat} {k : Nat → Nat × Nat} {h : Nat → Int → Int} {r : Nat → Int → Option Nat} {l : Nat → Nat → Int64} {n : Nat} {p : Int → Int} (hs : pS p) (hR : cR 4 5 6 7 8 9 10 11 12 13 k h r n p (-4)) {a b : Int} (za : zb a) (z2 : zb b) : zCT E (d + 2) M_X11_train [.ref 3, .int (iI (a)), .int (iI (b))] (zJ (k, h, r, l, n)) 0 0 (zVx (.int (iI (if (0 ≤ a ∧ a ≤ 300) ∧ (0 ≤ b ∧ b ≤ 9) then (if p 0 = 4 then -2 else p 0) else -1))) (zG k r l n (fun g => (∀ q : Nat, q < 4 ∨ 13 < q → g q = h q) ∧ cR 4 5 6 7 8 9 10 11 12 13 k g r n (if ((0 ≤ a ∧ a ≤ 300) ∧ (0 ≤ b ∧ b ≤ 9)) ∧ ¬ p 0 = 4 then zp (zp (zp p (11 + 2 * p 0) a) (11 + 2 * p 0 + 1) b) 0 (p 0 + 1) else p) (-4)))) := by
  have ok := ok_X11_train
  refine zCT_of pn_X11_train (Nat.le_of_ble_eq_true rfl) ?_
  show zGo _ _ _ _ _ _ 0 ([some (.ref 3), some (.int (iI (a))), some (.int (iI (b)))], [], _, _, _)
  have hp := hs.1
  have hft := hs.2.2.2.1
  have p60 := hp.2.2.2.2.2.2.2.2.2.2.2.2.1
  have p68 := hp.2.2.2.2.2.2.2.2.2.2.2.2.2.1
  have p00 := hp.1
  have p04 := hp.2.1
  have hf : ∀ q : Int, 0 ≤ q → q < p 6 → ¬ pFr p q = 4 := fun q q0 q1 => by have := pOf_gt hp q0 (by omega) (hft q q0 q1); omega
  refine s_ldI1 ok rfl ?_
  refine s_callS ok rfl rfl rfl rfl (ct_pisStart za) ?_
  refine s_if_eq ok rfl zif01 (fun c4 => ?_) (fun c4 => ?_)
  · refine s_ci ok rfl ?_
    have no : ¬ ((0 ≤ a ∧ a ≤ 300) ∧ (0 ≤ b ∧ b ≤ 9)) := fun q => by first | exact zif_f c4 q.1 | exact zif_f c11 q.2
    exact s_retI ok rfl ⟨congrArg (fun z => some (Value.int (iI z))) (if_neg no).symm, h, rfl, fun _ _ => rfl, by rw [if_neg (fun q => no q.1)]; exact hR⟩
  · refine s_ldI2 ok rfl ?_
    refine s_callS ok rfl rfl rfl rfl (ct_pisSeats z2) ?_
    refine s_if_eq ok rfl zif01 (fun c11 => ?_) (fun c11 => ?_)
    · refine s_ci ok rfl ?_
      have no : ¬ ((0 ≤ a ∧ a ≤ 300) ∧ (0 ≤ b ∧ b ≤ 9)) := fun q => by first | exact zif_f c4 q.1 | exact zif_f c11 q.2
      exact s_retI ok rfl ⟨congrArg (fun z => some (Value.int (iI z))) (if_neg no).symm, h, rfl, fun _ _ => rfl, by rw [if_neg (fun q => no q.1)]; exact hR⟩
    · have yes : (0 ≤ a ∧ a ≤ 300) ∧ (0 ≤ b ∧ b ≤ 9) := ⟨zif_t c4, zif_t c11⟩
      refine s_ldA0 ok rfl ?_
      refine s_getF ok rfl rfl rfl rfl ?_
      refine s_ldI1 ok rfl ?_
      refine s_ldI2 ok rfl ?_
      refine s_callVx ok rfl rfl rfl rfl rfl rfl (ct_addTrain4 hR p00 p04 hp.2.2.1 hs.2.2.2.2) (fun σ22 hσ22 => ?_)
      obtain ⟨g22, rfl, hg22⟩ := hσ22
      refine s_if_eq ok rfl zif01 (fun c25 => ?_) (fun c25 => ?_)
      · refine s_ci ok rfl ?_
        have e4 : p 0 = 4 := by have := zif_f c25; omega
        exact s_retI ok rfl ⟨congrArg (fun z => some (Value.int (iI z))) (by rw [if_pos yes, if_pos e4]), g22, rfl, hg22.1, by rw [if_neg (fun q => q.2 e4)]; have z := hg22.2; rw [if_neg (by omega)] at z; exact z⟩
      · have n4 : ¬ p 0 = 4 := by have := zif_t c25; omega
        have hT := hg22.2
        rw [if_pos (by omega)] at hT
        have e5 : g22 4 5 = p 0 + 1 := hT.1.2
        refine s_ldA0 ok rfl ?_
        refine s_getF ok rfl rfl rfl rfl ?_
        refine s_getJ 5 ok rfl rfl rfl rfl ?_
        rw [e5]
        refine s_ci ok rfl ?_
        refine s_sub ok rfl ?_
        refine s_retI ok rfl ⟨congrArg (fun z => some (Value.int (iI z))) (by rw [if_pos yes, if_neg n4]; omega), g22, rfl, hg22.1, by rw [if_pos ⟨yes, n4⟩]; exact hT⟩
theorem ct_comes11 {E : zE} {d : Nat} {k : Nat → Nat × Nat} {h : Nat → Int → Int} {r : Nat → Int → Option Nat} {l : Nat → Nat → Int64} {n : Nat} {p : Int → Int} (hs : pS p) (hR : cR 4 5 6 7 8 9 10 11 12 13 k h r n p (-4)) (hc : cSh k h r n) {t a b c : Int} (zt : zb t) (za : zb a) (z2 : zb b) (z3 : zb c) : zCT E (d + 2) M_X11_comes [.ref 3, .int (iI (t)), .int (iI (a)), .int (iI (b)), .int (iI (c))] (zJ (k, h, r, l, n)) 0 0 (zVx (.int (iI (if (0 ≤ t ∧ t < 8) ∧ (0 ≤ a ∧ a ≤ 4) ∧ (0 ≤ b ∧ b ≤ 4) ∧ (0 ≤ c ∧ c ≤ 300) then (if sWK h t = 0 then (if b ≤ a then -3 else if p 6 = 8 then -2 else p 6) else sWK h t) else -1))) (fun s => ∃ g r9, s = zJ (k, g, r9, l, n) ∧ (∀ q : Nat, q < 4 ∨ 13 < q → g q = h q) ∧ (∀ q, ¬ q = 5 → r9 q = r q) ∧ cR 4 5 6 7 8 9 10 11 12 13 k g r9 n (if ((0 ≤ t ∧ t < 8) ∧ (0 ≤ a ∧ a ≤ 4) ∧ (0 ≤ b ∧ b ≤ 4) ∧ (0 ≤ c ∧ c ≤ 300)) ∧ sWK h t = 0 ∧ a < b ∧ ¬ p 6 = 8 then pPn p (fun i : Int => if i = 0 then h 81 t else if i = 1 then h 82 t else if i = 2 then a else if i = 3 then b else c) else p) (-4))) := by
  have ok := ok_X11_comes
  refine zCT_of pn_X11_comes (Nat.le_of_ble_eq_true rfl) ?_
  show zGo _ _ _ _ _ _ 0 ([some (.ref 3), some (.int (iI (t))), some (.int (iI (a))), some (.int (iI (b))), some (.int (iI (c))), none], [], _, _, _)
  have hp := hs.1
  have hft := hs.2.2.2.1
  have p60 := hp.2.2.2.2.2.2.2.2.2.2.2.2.1
  have p68 := hp.2.2.2.2.2.2.2.2.2.2.2.2.2.1
  have p00 := hp.1
  have p04 := hp.2.1
  have hf : ∀ q : Int, 0 ≤ q → q < p 6 → ¬ pFr p q = 4 := fun q q0 q1 => by have := pOf_gt hp q0 (by omega) (hft q q0 q1); omega
  rcases zopt (r 55 t) with e6 | ⟨v6, e6⟩
  · skip
    refine s_ldI1 ok rfl ?_
    refine s_callS ok rfl rfl rfl rfl (ct_isShelf11 zt) ?_
    refine s_if_eq ok rfl zif01 (fun c4 => ?_) (fun c4 => ?_)
    · refine s_ci ok rfl ?_
      have no : ¬ ((0 ≤ t ∧ t < 8) ∧ (0 ≤ a ∧ a ≤ 4) ∧ (0 ≤ b ∧ b ≤ 4) ∧ (0 ≤ c ∧ c ≤ 300)) := fun q => by first | exact zif_f c4 q.1 | exact zif_f c11 q.2.1 | exact zif_f c18 q.2.2.1 | exact zif_f c26 q.2.2.2
      exact s_retI ok rfl ⟨congrArg (fun z => some (Value.int (iI z))) (if_neg no).symm, h, r, rfl, fun _ _ => rfl, fun _ _ => rfl, by rw [if_neg (fun q => no q.1)]; exact hR⟩
    · refine s_ldI2 ok rfl ?_
      refine s_callS ok rfl rfl rfl rfl (ct_pisStop za) ?_
      refine s_if_eq ok rfl zif01 (fun c11 => ?_) (fun c11 => ?_)
      · refine s_ci ok rfl ?_
        have no : ¬ ((0 ≤ t ∧ t < 8) ∧ (0 ≤ a ∧ a ≤ 4) ∧ (0 ≤ b ∧ b ≤ 4) ∧ (0 ≤ c ∧ c ≤ 300)) := fun q => by first | exact zif_f c4 q.1 | exact zif_f c11 q.2.1 | exact zif_f c18 q.2.2.1 | exact zif_f c26 q.2.2.2
        exact s_retI ok rfl ⟨congrArg (fun z => some (Value.int (iI z))) (if_neg no).symm, h, r, rfl, fun _ _ => rfl, fun _ _ => rfl, by rw [if_neg (fun q => no q.1)]; exact hR⟩
      · refine s_ldI3 ok rfl ?_
        refine s_callS ok rfl rfl rfl rfl (ct_pisStop z2) ?_
        refine s_if_eq ok rfl zif01 (fun c18 => ?_) (fun c18 => ?_)
        · refine s_ci ok rfl ?_
          have no : ¬ ((0 ≤ t ∧ t < 8) ∧ (0 ≤ a ∧ a ≤ 4) ∧ (0 ≤ b ∧ b ≤ 4) ∧ (0 ≤ c ∧ c ≤ 300)) := fun q => by first | exact zif_f c4 q.1 | exact zif_f c11 q.2.1 | exact zif_f c18 q.2.2.1 | exact zif_f c26 q.2.2.2
          exact s_retI ok rfl ⟨congrArg (fun z => some (Value.int (iI z))) (if_neg no).symm, h, r, rfl, fun _ _ => rfl, fun _ _ => rfl, by rw [if_neg (fun q => no q.1)]; exact hR⟩
        · refine s_ldI4 ok rfl ?_
          refine s_callS ok rfl rfl rfl rfl (ct_pisBase z3) ?_
          refine s_if_eq ok rfl zif01 (fun c26 => ?_) (fun c26 => ?_)
          · refine s_ci ok rfl ?_
            have no : ¬ ((0 ≤ t ∧ t < 8) ∧ (0 ≤ a ∧ a ≤ 4) ∧ (0 ≤ b ∧ b ≤ 4) ∧ (0 ≤ c ∧ c ≤ 300)) := fun q => by first | exact zif_f c4 q.1 | exact zif_f c11 q.2.1 | exact zif_f c18 q.2.2.1 | exact zif_f c26 q.2.2.2
            exact s_retI ok rfl ⟨congrArg (fun z => some (Value.int (iI z))) (if_neg no).symm, h, r, rfl, fun _ _ => rfl, fun _ _ => rfl, by rw [if_neg (fun q => no q.1)]; exact hR⟩
          · have yes : (0 ≤ t ∧ t < 8) ∧ (0 ≤ a ∧ a ≤ 4) ∧ (0 ≤ b ∧ b ≤ 4) ∧ (0 ≤ c ∧ c ≤ 300) := ⟨zif_t c4, zif_t c11, zif_t c18, zif_t c26⟩
            obtain ⟨x0, x1⟩ := yes.1
            refine s_ldA0 ok rfl ?_
            refine s_ldI1 ok rfl ?_
            refine s_callV ok rfl rfl rfl rfl rfl rfl (ct_isEmpty11 x0 x1) ?_
            refine s_if_eq ok rfl zif01 (fun c36 => ?_) (fun c36 => ?_)
            · refine s_ldA0 ok rfl ?_
              refine s_getF ok rfl rfl rfl rfl ?_
              refine s_ldI1 ok rfl ?_
              refine s_aaldN ok rfl (by exact rfl) (by exact rfl) (by exact rfl) (by omega) (by omega) e6 ?_
              refine s_stN5 ok rfl rfl ?_
              refine s_ldN5 ok rfl ?_
              refine s_nullN ok rfl ?_
              refine s_ci ok rfl ?_
              have n0 : ¬ h 80 t = 0 := fun q => zif_f c36 ((cSh_e hc x0 x1).1.2 q)
              have e2 : h 80 t = 2 := by
                rcases hc.1 t x0 x1 with ⟨z, -⟩ | ⟨-, ⟨v, z, -⟩, -⟩ | ⟨z, -⟩
                · exact absurd z n0
                · rw [e6] at z
                  cases z
                · exact z
              have eK : sWK h t = -12 := by unfold sWK; rw [if_neg (by omega), if_neg n0, if_pos e2]
              exact s_retI ok rfl ⟨congrArg (fun z => some (Value.int (iI z))) (by rw [if_pos yes, if_neg (by omega), eK]), h, r, rfl, fun _ _ => rfl, fun _ _ => rfl, by rw [if_neg (fun q => absurd q.2.1 (by omega))]; exact hR⟩
            · refine s_ci ok rfl ?_
              have e0 := (cSh_e hc x0 x1).1.1 (zif_t c36)
              have eK : sWK h t = -11 := by unfold sWK; rw [if_neg (by omega), if_pos e0]
              exact s_retI ok rfl ⟨congrArg (fun z => some (Value.int (iI z))) (by rw [if_pos yes, if_neg (by omega), eK]), h, r, rfl, fun _ _ => rfl, fun _ _ => rfl, by rw [if_neg (fun q => absurd q.2.1 (by omega))]; exact hR⟩
  · skip
    refine s_ldI1 ok rfl ?_
    refine s_callS ok rfl rfl rfl rfl (ct_isShelf11 zt) ?_
    refine s_if_eq ok rfl zif01 (fun c4 => ?_) (fun c4 => ?_)
    · refine s_ci ok rfl ?_
      have no : ¬ ((0 ≤ t ∧ t < 8) ∧ (0 ≤ a ∧ a ≤ 4) ∧ (0 ≤ b ∧ b ≤ 4) ∧ (0 ≤ c ∧ c ≤ 300)) := fun q => by first | exact zif_f c4 q.1 | exact zif_f c11 q.2.1 | exact zif_f c18 q.2.2.1 | exact zif_f c26 q.2.2.2
      exact s_retI ok rfl ⟨congrArg (fun z => some (Value.int (iI z))) (if_neg no).symm, h, r, rfl, fun _ _ => rfl, fun _ _ => rfl, by rw [if_neg (fun q => no q.1)]; exact hR⟩
    · refine s_ldI2 ok rfl ?_
      refine s_callS ok rfl rfl rfl rfl (ct_pisStop za) ?_
      refine s_if_eq ok rfl zif01 (fun c11 => ?_) (fun c11 => ?_)
      · refine s_ci ok rfl ?_
        have no : ¬ ((0 ≤ t ∧ t < 8) ∧ (0 ≤ a ∧ a ≤ 4) ∧ (0 ≤ b ∧ b ≤ 4) ∧ (0 ≤ c ∧ c ≤ 300)) := fun q => by first | exact zif_f c4 q.1 | exact zif_f c11 q.2.1 | exact zif_f c18 q.2.2.1 | exact zif_f c26 q.2.2.2
        exact s_retI ok rfl ⟨congrArg (fun z => some (Value.int (iI z))) (if_neg no).symm, h, r, rfl, fun _ _ => rfl, fun _ _ => rfl, by rw [if_neg (fun q => no q.1)]; exact hR⟩
      · refine s_ldI3 ok rfl ?_
        refine s_callS ok rfl rfl rfl rfl (ct_pisStop z2) ?_
        refine s_if_eq ok rfl zif01 (fun c18 => ?_) (fun c18 => ?_)
        · refine s_ci ok rfl ?_
          have no : ¬ ((0 ≤ t ∧ t < 8) ∧ (0 ≤ a ∧ a ≤ 4) ∧ (0 ≤ b ∧ b ≤ 4) ∧ (0 ≤ c ∧ c ≤ 300)) := fun q => by first | exact zif_f c4 q.1 | exact zif_f c11 q.2.1 | exact zif_f c18 q.2.2.1 | exact zif_f c26 q.2.2.2
          exact s_retI ok rfl ⟨congrArg (fun z => some (Value.int (iI z))) (if_neg no).symm, h, r, rfl, fun _ _ => rfl, fun _ _ => rfl, by rw [if_neg (fun q => no q.1)]; exact hR⟩
        · refine s_ldI4 ok rfl ?_
          refine s_callS ok rfl rfl rfl rfl (ct_pisBase z3) ?_
          refine s_if_eq ok rfl zif01 (fun c26 => ?_) (fun c26 => ?_)
          · refine s_ci ok rfl ?_
            have no : ¬ ((0 ≤ t ∧ t < 8) ∧ (0 ≤ a ∧ a ≤ 4) ∧ (0 ≤ b ∧ b ≤ 4) ∧ (0 ≤ c ∧ c ≤ 300)) := fun q => by first | exact zif_f c4 q.1 | exact zif_f c11 q.2.1 | exact zif_f c18 q.2.2.1 | exact zif_f c26 q.2.2.2
            exact s_retI ok rfl ⟨congrArg (fun z => some (Value.int (iI z))) (if_neg no).symm, h, r, rfl, fun _ _ => rfl, fun _ _ => rfl, by rw [if_neg (fun q => no q.1)]; exact hR⟩
          · have yes : (0 ≤ t ∧ t < 8) ∧ (0 ≤ a ∧ a ≤ 4) ∧ (0 ≤ b ∧ b ≤ 4) ∧ (0 ≤ c ∧ c ≤ 300) := ⟨zif_t c4, zif_t c11, zif_t c18, zif_t c26⟩
            obtain ⟨x0, x1⟩ := yes.1
            refine s_ldA0 ok rfl ?_
            refine s_ldI1 ok rfl ?_
            refine s_callV ok rfl rfl rfl rfl rfl rfl (ct_isEmpty11 x0 x1) ?_
            refine s_if_eq ok rfl zif01 (fun c36 => ?_) (fun c36 => ?_)
            · refine s_ldA0 ok rfl ?_
              refine s_getF ok rfl rfl rfl rfl ?_
              refine s_ldI1 ok rfl ?_
              refine s_aald ok rfl (by exact rfl) (by exact rfl) (by exact rfl) (by omega) (by omega) e6 ?_
              refine s_stA5 ok rfl rfl ?_
              refine s_ldA5 ok rfl ?_
              refine s_nullR ok rfl ?_
              have wz : h 80 t = 1 ∧ wk k h v6 (h 81 t) (h 82 t) ∧ 87 ≤ v6 ∧ v6 < n := by
                rcases hc.1 t x0 x1 with ⟨-, z, -⟩ | ⟨z1, ⟨v, z, z2⟩, -⟩ | ⟨-, z, -⟩
                · rw [e6] at z
                  cases z
                · rw [e6] at z
                  cases z
                  exact ⟨z1, z2⟩
                · rw [e6] at z
                  cases z
              obtain ⟨h80, wv, v0, v1⟩ := wz
              have eK : sWK h t = 0 := by unfold sWK; rw [if_neg (by omega), if_neg (by omega), if_neg (by omega)]
              refine s_ldI2 ok rfl ?_
              refine s_ldI3 ok rfl ?_
              refine s_c_lt ok rfl za z2 (fun c60 => ?_) (fun c60 => ?_)
              · refine s_ldA0 ok rfl ?_
                refine s_getF ok rfl rfl rfl rfl ?_
                refine s_ldA5 ok rfl ?_
                refine s_ldI2 ok rfl ?_
                refine s_ldI3 ok rfl ?_
                refine s_ldI4 ok rfl ?_
                refine s_callVx ok rfl rfl rfl rfl rfl rfl (ct_addPerson4 hR p60 p68 p04 wv (by omega)) (fun σ76 hσ76 => ?_)
                obtain ⟨g76, r76, rfl, f76, i76, hQ76⟩ := hσ76
                refine s_if_eq ok rfl zif01 (fun c79 => ?_) (fun c79 => ?_)
                · refine s_ci ok rfl ?_
                  have e8 : p 6 = 8 := by have := zif_f c79; omega
                  exact s_retI ok rfl ⟨congrArg (fun z => some (Value.int (iI z))) (by rw [if_pos yes, if_pos eK, if_neg (by omega), if_pos e8]), g76, r76, rfl, f76, i76, by rw [if_neg (fun q => q.2.2.2 e8)]; have z := hQ76; rw [if_neg (by omega)] at z; exact z⟩
                · have n8 : ¬ p 6 = 8 := by have := zif_t c79; omega
                  have hT := hQ76
                  rw [if_pos (by omega)] at hT
                  have e5 : g76 4 0 = p 6 + 1 := by
                    rw [cR4_n hT]
                    exact if_pos rfl
                  refine s_ldA0 ok rfl ?_
                  refine s_getF ok rfl rfl rfl rfl ?_
                  refine s_getJ 0 ok rfl rfl rfl rfl ?_
                  rw [e5]
                  refine s_ci ok rfl ?_
                  refine s_sub ok rfl ?_
                  exact s_retI ok rfl ⟨congrArg (fun z => some (Value.int (iI z))) (by rw [if_pos yes, if_pos eK, if_neg (by omega), if_neg n8]; omega), g76, r76, rfl, f76, i76, by rw [if_pos ⟨yes, eK, by omega, n8⟩]; exact hT⟩
              · refine s_ci ok rfl ?_
                exact s_retI ok rfl ⟨congrArg (fun z => some (Value.int (iI z))) (by rw [if_pos yes, if_pos eK, if_pos (by omega)]), h, r, rfl, fun _ _ => rfl, fun _ _ => rfl, by rw [if_neg (fun q => absurd q.2.2.1 (by omega))]; exact hR⟩
            · refine s_ci ok rfl ?_
              have e0 := (cSh_e hc x0 x1).1.1 (zif_t c36)
              have eK : sWK h t = -11 := by unfold sWK; rw [if_neg (by omega), if_pos e0]
              exact s_retI ok rfl ⟨congrArg (fun z => some (Value.int (iI z))) (by rw [if_pos yes, if_neg (by omega), eK]), h, r, rfl, fun _ _ => rfl, fun _ _ => rfl, by rw [if_neg (fun q => absurd q.2.1 (by omega))]; exact hR⟩
theorem ct_leaves11 {E : zE} {d : Nat} {k : Nat → Nat × Nat} {h : Nat → Int → Int} {r : Nat → Int → Option Nat} {l : Nat → Nat → Int64} {n : Nat} {p : Int → Int} (hs : pS p) (hR : cR 4 5 6 7 8 9 10 11 12 13 k h r n p (-4)) {t : Int} (zt : zb t) : zCT E (d + 3) M_X11_leaves [.ref 3, .int (iI (t))] (zJ (k, h, r, l, n)) 0 0 (zVx (.int (iI (if 0 ≤ t ∧ t < p 6 then p 6 - 1 else -1))) (fun s => ∃ g r9, s = zJ (k, g, r9, l, n) ∧ (∀ q : Nat, q < 4 ∨ 13 < q → g q = h q) ∧ (∀ q, ¬ q = 5 → r9 q = r q) ∧ cR 4 5 6 7 8 9 10 11 12 13 k g r9 n (if 0 ≤ t ∧ t < p 6 then sLv p t (5 * (p 6 - 1)) else p) (-4))) := by
  have ok := ok_X11_leaves
  refine zCT_of pn_X11_leaves (Nat.le_of_ble_eq_true rfl) ?_
  show zGo _ _ _ _ _ _ 0 ([some (.ref 3), some (.int (iI (t)))], [], _, _, _)
  have hp := hs.1
  have hft := hs.2.2.2.1
  have p60 := hp.2.2.2.2.2.2.2.2.2.2.2.2.1
  have p68 := hp.2.2.2.2.2.2.2.2.2.2.2.2.2.1
  have p00 := hp.1
  have p04 := hp.2.1
  have hf : ∀ q : Int, 0 ≤ q → q < p 6 → ¬ pFr p q = 4 := fun q q0 q1 => by have := pOf_gt hp q0 (by omega) (hft q q0 q1); omega
  refine s_ldA0 ok rfl ?_
  refine s_getF ok rfl rfl rfl rfl ?_
  refine s_ldI1 ok rfl ?_
  refine s_callV ok rfl rfl rfl rfl rfl rfl (ct_isPerson4 (cR4_n hR) p60 p68 zt) ?_
  refine s_if_eq ok rfl zif01 (fun c8 => ?_) (fun c8 => ?_)
  · refine s_ci ok rfl ?_
    exact s_retI ok rfl ⟨congrArg (fun z => some (Value.int (iI z))) (if_neg (zif_f c8)).symm, h, r, rfl, fun _ _ => rfl, fun _ _ => rfl, by rw [if_neg (zif_f c8)]; exact hR⟩
  · refine s_ldA0 ok rfl ?_
    refine s_getF ok rfl rfl rfl rfl ?_
    refine s_ldI1 ok rfl ?_
    have yt := zif_t c8
    refine s_callVvx ok rfl rfl rfl rfl rfl rfl (ct_drop4 hR yt.1 yt.2 p68) (fun σ18 hσ18 => ?_)
    obtain ⟨g18, r18, rfl, f18, i18, hQ⟩ := hσ18
    have e0 : g18 4 0 = p 6 - 1 := hQ.1.1.trans (if_pos yt)
    refine s_ldA0 ok rfl ?_
    refine s_getF ok rfl rfl rfl rfl ?_
    refine s_getJ 0 ok rfl rfl rfl rfl ?_
    rw [e0]
    exact s_retI ok rfl ⟨congrArg (fun z => some (Value.int (iI z))) (if_pos yt).symm, g18, r18, rfl, f18, i18, by rw [if_pos yt]; exact cR_sLv hQ yt.1 yt.2 p04⟩
