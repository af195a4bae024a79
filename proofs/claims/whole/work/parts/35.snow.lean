/-! snow -/
theorem zar_zp {h : Nat → Int → Int} {a : Int → Int} {j v : Int} : zv (zar h 60 a) 60 j v = zar h 60 (zp a j v) := zar_zv
theorem zpn_0 {p : Int → Int} {v : Int} : zpn p v ((0 : Nat) : Int) = p := by
  funext j
  unfold zpn
  exact if_neg (by omega)
theorem zpn_b {p : Int → Int} {v : Int} : zpn (zpn p v 4) (-v) ((4 : Nat) : Int) = p := by
  funext j
  unfold zpn
  by_cases q : 7 ≤ j ∧ j < 7 + 4
  · rw [if_pos (by omega), if_pos q]
    omega
  · rw [if_neg (by omega), if_neg q]
theorem lp_snow1 {E : zE} {d : Nat} {k : Nat → Nat × Nat} {h : Nat → Int → Int} {r : Nat → Int → Option Nat} {l : Nat → Nat → Int64} {n : Nat} {Q : zQ} {v : Int} {a : Int → Int} (hX : zGo E (d + 7) M_X12_snow 0 0 Q 38 ([some (.ref 59), some (.int (iI (v))), some (.int (iI (((4 : Nat) : Int))))], [], zJ (k, zar h 60 (zpn a v ((4 : Nat) : Int)), r, l, n), 0, 0)) : ∀ c : Nat, ∀ m : Nat, 4 < m + c → m ≤ 4 → zGo E (d + 7) M_X12_snow 0 0 Q 14 ([some (.ref 59), some (.int (iI (v))), some (.int (iI ((m : Int))))], [], zJ (k, zar h 60 (zpn a v (m : Int)), r, l, n), 0, 0) := by
  have ok := ok_X12_snow
  intro c
  induction c with
  | zero =>
    intros
    omega
  | succ c ih =>
    intro m g1 g2
    have e3 := zpn_s (p := a) (v := v) (c := m)
    refine s_ldI2 ok rfl ?_
    refine s_ci ok rfl ?_
    refine s_c_ge ok rfl (by first | exact hb _ _ | exact ⟨by omega, by omega⟩) (by first | exact hb _ _ | exact ⟨by omega, by omega⟩) (fun c16 => ?_) (fun c16 => ?_)
    · rw [show m = 4 by omega]
      exact hX
    · refine s_ldA0 ok rfl ?_
      refine s_getF ok rfl rfl rfl rfl ?_
      refine s_ci ok rfl ?_
      refine s_ldI2 ok rfl ?_
      refine s_add ok rfl ?_
      refine s_dup2 ok rfl ?_
      refine s_iald ok rfl (by exact rfl) (by exact rfl) (by omega) (by omega) ?_
      refine s_ldI1 ok rfl ?_
      refine s_add ok rfl ?_
      refine s_iast ok rfl (by exact rfl) (by exact rfl) (by omega) (by omega) (fun q => by cases q) ?_
      refine s_inc2 ok rfl rfl ?_
      refine s_goto ok rfl ?_
      have hh := ih (m + 1) (by omega) (by omega)
      rw [← e3, ← zar_zp] at hh
      exact hh
theorem lp_snow2 {E : zE} {d : Nat} {k : Nat → Nat × Nat} {h : Nat → Int → Int} {r : Nat → Int → Option Nat} {l : Nat → Nat → Int64} {n : Nat} {Q : zQ} {v : Int} {a : Int → Int} (hX : zGo E (d + 7) M_X12_snow 0 0 Q 68 ([some (.ref 59), some (.int (iI (v))), some (.int (iI (((4 : Nat) : Int))))], [], zJ (k, zar h 60 (zpn a (-v) ((4 : Nat) : Int)), r, l, n), 0, 0)) : ∀ c : Nat, ∀ m : Nat, 4 < m + c → m ≤ 4 → zGo E (d + 7) M_X12_snow 0 0 Q 44 ([some (.ref 59), some (.int (iI (v))), some (.int (iI ((m : Int))))], [], zJ (k, zar h 60 (zpn a (-v) (m : Int)), r, l, n), 0, 0) := by
  have ok := ok_X12_snow
  intro c
  induction c with
  | zero =>
    intros
    omega
  | succ c ih =>
    intro m g1 g2
    have e3 := zpn_s (p := a) (v := (-v)) (c := m)
    refine s_ldI2 ok rfl ?_
    refine s_ci ok rfl ?_
    refine s_c_ge ok rfl (by first | exact hb _ _ | exact ⟨by omega, by omega⟩) (by first | exact hb _ _ | exact ⟨by omega, by omega⟩) (fun c46 => ?_) (fun c46 => ?_)
    · rw [show m = 4 by omega]
      exact hX
    · refine s_ldA0 ok rfl ?_
      refine s_getF ok rfl rfl rfl rfl ?_
      refine s_ci ok rfl ?_
      refine s_ldI2 ok rfl ?_
      refine s_add ok rfl ?_
      refine s_dup2 ok rfl ?_
      refine s_iald ok rfl (by exact rfl) (by exact rfl) (by omega) (by omega) ?_
      refine s_ldI1 ok rfl ?_
      refine s_sub ok rfl ?_
      refine s_iast ok rfl (by exact rfl) (by exact rfl) (by omega) (by omega) (fun q => by cases q) ?_
      refine s_inc2 ok rfl rfl ?_
      refine s_goto ok rfl ?_
      have hh := ih (m + 1) (by omega) (by omega)
      rw [← e3, ← zar_zp] at hh
      rw [← Int.sub_eq_add_neg] at hh
      exact hh
theorem ct_snow {E : zE} {d : Nat} {k : Nat → Nat × Nat} {h : Nat → Int → Int} {r : Nat → Int → Option Nat} {l : Nat → Nat → Int64} {n : Nat} {p : Int → Int} {w dd : Int} (ep : h 60 = p) (ew : h 59 17 = w) (ed : h 59 18 = dd) (hd : dP h) (h2 : zb dd) {v : Int} (zt : zb v) (hr : ∀ j : Int, 7 ≤ j → j < 11 → p j ≤ 60) : zCT E (d + 7) M_X12_snow [.ref 59, .int (iI (v))] (zJ (k, h, r, l, n)) 0 0 (zVx (.int (iI (if 0 ≤ v ∧ v ≤ 30 then zmxs (dN (zpn p v 4) w dd 71) (p 6).toNat else -1))) (zG k r l n (dE h))) := by
  have ok := ok_X12_snow
  refine zCT_of pn_X12_snow (Nat.le_of_ble_eq_true rfl) ?_
  show zGo _ _ _ _ _ _ 0 ([some (.ref 59), some (.int (iI (v))), none], [], _, _, _)
  subst ep
  subst ew
  subst ed
  refine s_ldI1 ok rfl ?_
  refine s_ci ok rfl ?_
  refine s_ci ok rfl ?_
  refine s_callS ok rfl rfl rfl rfl (ct_isIn zt ⟨by omega, by omega⟩ ⟨by omega, by omega⟩) ?_
  refine s_if_eq ok rfl zif01 (fun c7 => ?_) (fun c7 => ?_)
  · refine s_ci ok rfl ?_
    refine s_retI ok rfl ⟨congrArg (fun z => some (Value.int (iI z))) (if_neg (fun q => zif_f c7 q)).symm, _, rfl, dE.rf hd⟩
  · refine s_ci ok rfl ?_
    refine s_stI2 ok rfl rfl ?_
    have yt := zif_t c7
    have p6 := hd.1.2.2.2.2.2.2.2.2.2.2.2.2.2.1
    have p6a := hd.1.2.2.2.2.2.2.2.2.2.2.2.2.1
    have pO := pOK_snow hd.1 yt.1 yt.2 hr
    have hd9 : dP (zar h 60 (zpn (h 60) v 4)) := ⟨pO, hd.2.1, hd.2.2.1, hd.2.2.2.1, hd.2.2.2.2⟩
    obtain ⟨hE, hD⟩ := dE_goes hd9
    have i60 : sGoes (zar h 60 (zpn (h 60) v 4)) 60 = zpn (h 60) v 4 := hE.e60
    have hD2 : dD (sGoes (zar h 60 (zpn (h 60) v 4))) (zpn (h 60) v 4) (h 59 17) (h 59 18) := hD
    have e6 : zpn (h 60) v 4 6 = h 60 6 := if_neg (by omega)
    have em := zmxs_cg (f := sGoes (zar h 60 (zpn (h 60) v 4)) 71) (g := dN (zpn (h 60) v 4) (h 59 17) (h 59 18) 71) (h 60 6).toNat (fun j j0 j1 => hD2.1 71 (by omega) (by omega) j j0 (by omega))
    have fE : dE h (zar (sGoes (zar h 60 (zpn (h 60) v 4))) 60 (h 60)) := by
      refine ⟨fun m h1 h3 => ?_, fun j hj => ?_, ⟨?_, hE.2.2.2.1, hE.2.2.2.2.1, hE.2.2.2.2.2.1, hE.2.2.2.2.2.2⟩⟩
      · by_cases c : m = 60
        · rw [c, zar_at]
        · rw [zar_other c, hE.1 m h1 h3, zar_other c]
      · rw [zar_other (by omega), hE.2.1 j hj, zar_other (by omega)]
      · rw [zar_at]
        exact hd.1
    generalize hG : sGoes (zar h 60 (zpn (h 60) v 4)) = G at *
    have e0 : zar G 60 (zpn (zpn (h 60) v 4) (-v) ((0 : Nat) : Int)) = G := by rw [zpn_0, ← i60, zar_self]
    refine zgo_eq ?_ (lp_snow1 (E := E) (d := d) (k := k) (r := r) (l := l) (n := n) (h := h) (v := v) (a := h 60) ?_ 5 0 (by omega) (by omega))
    · rw [zpn_0, zar_self]
      rfl
    refine s_ldA0 ok rfl ?_
    refine s_callVv ok rfl rfl rfl rfl rfl rfl (ct_goes (h := zar h 60 (zpn (h 60) v 4)) hd9 (by exact h2)) ?_
    rw [hG]
    refine s_ci ok rfl ?_
    refine s_stI2 ok rfl rfl ?_
    have hh := lp_snow2 (E := E) (d := d) (k := k) (r := r) (l := l) (n := n) (h := G) (v := v) (a := zpn (h 60) v 4) (Q := zVx (.int (iI (if 0 ≤ v ∧ v ≤ 30 then zmxs (dN (zpn (h 60) v 4) (h 59 17) (h 59 18) 71) (h 60 6).toNat else -1))) (zG k r l n (dE h))) ?_ 5 0 (by omega) (by omega)
    · rw [e0] at hh
      exact hh
    rw [zpn_b]
    refine s_ldA0 ok rfl ?_
    refine s_callV ok rfl rfl rfl rfl rfl rfl (ct_latest (h := zar G 60 (h 60)) (np := (h 60 6).toNat) (by exact fE.2.2.2.2.1) (by rw [zar_at]; omega) (by omega)) ?_
    have e71 : zar G 60 (h 60) 71 = G 71 := zar_other (by omega)
    rw [e71, em]
    exact s_retI ok rfl ⟨congrArg (fun z => some (Value.int (iI z))) (if_pos yt).symm, _, rfl, fE⟩
