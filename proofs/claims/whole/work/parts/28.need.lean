/-! cancel, strike, bestStart, need, came -/
theorem zxb4 {m k : Int} (m0 : 0 ≤ m) (m1 : m < 16) (k0 : 0 ≤ k) (k1 : k < 4) : (0 ≤ zxb m k ∧ zxb m k < 16) ∧ zxb (zxb m k) k = m := by
  have e : z2 0 = 1 ∧ z2 1 = 2 ∧ z2 2 = 4 ∧ z2 3 = 8 := ⟨rfl, rfl, rfl, rfl⟩
  obtain ⟨e0, e1, e2, e3⟩ := e
  rcases (by omega : k = 0 ∨ k = 1 ∨ k = 2 ∨ k = 3) with q | q | q | q
  · subst q
    unfold zxb zbt
    rw [e0]
    constructor
    · split <;> omega
    · (repeat' split) <;> omega
  · subst q
    unfold zxb zbt
    rw [e1]
    constructor
    · split <;> omega
    · (repeat' split) <;> omega
  · subst q
    unfold zxb zbt
    rw [e2]
    constructor
    · split <;> omega
    · (repeat' split) <;> omega
  · subst q
    unfold zxb zbt
    rw [e3]
    constructor
    · split <;> omega
    · (repeat' split) <;> omega
theorem dP_put {h : Nat → Int → Int} (hd : dP h) {i v : Int} (hv : pOK (zp (h 60) i v)) : dP (zv h 60 i v) := ⟨hv, hd.2.1, hd.2.2.1, hd.2.2.2.1, hd.2.2.2.2⟩
theorem dE_back {h g g2 : Nat → Int → Int} {i v : Int} (hd : dP h) (f : dE h g) (f2 : dE (zv g 60 i v) g2) : dE h (zv g2 60 i (h 60 i)) := by
  have e60 : zv g2 60 i (h 60 i) 60 = h 60 := by
    have z : zv g2 60 i (h 60 i) 60 = zp (g2 60) i (h 60 i) := rfl
    have z2 : g2 60 = zp (g 60) i v := f2.e60
    rw [z, z2, f.e60]
    exact zp_bk
  refine ⟨fun m h1 h2 => ?_, fun j hj => ?_, ⟨?_, f2.2.2.2.1, f2.2.2.2.2.1, f2.2.2.2.2.2.1, f2.2.2.2.2.2.2⟩⟩
  · by_cases c : m = 60
    · rw [c]
      exact e60
    · rw [zv_other c, f2.1 m h1 h2, zv_other c]
      exact f.1 m h1 h2
  · rw [zv_other (by omega), f2.2.1 j hj, zv_other (by omega)]
    exact f.2.1 j hj
  · rw [e60]
    exact hd.1
theorem dE_depth {h g : Nat → Int → Int} {a b : Int} (hb : h 59 18 = b) (f : dE (zv h 59 18 a) g) : dE h (zv g 59 18 b) := by
  refine ⟨fun m h1 h2 => ?_, fun j hj => ?_, ⟨f.2.2.1, f.2.2.2.1, f.2.2.2.2.1, f.2.2.2.2.2.1, ?_⟩⟩
  · rw [zv_other h2, f.1 m h1 h2, zv_other h2]
  · by_cases c : j = 18
    · rw [c, zv_is, hb]
    · rw [zv_at c, f.2.1 j hj, zv_at c]
  · rw [zv_at (by omega)]
    exact f.2.2.2.2.2.2
theorem ct_cancel {E : zE} {d : Nat} {k : Nat → Nat × Nat} {h : Nat → Int → Int} {r : Nat → Int → Option Nat} {l : Nat → Nat → Int64} {n : Nat} {p : Int → Int} {w dd : Int} (ep : h 60 = p) (ew : h 59 17 = w) (ed : h 59 18 = dd) (hd : dP h) (h2 : zb dd) {t : Int} (zt : zb t) : zCT E (d + 8) M_X12_cancel [.ref 59, .int (iI (t))] (zJ (k, h, r, l, n)) 0 0 (zVx (.int (iI (if 0 ≤ t ∧ t < p 0 then dMn (zp p 1 (zxb (p 1) t)) w dd - dMn p w dd else -1000000001))) (zG k r l n (dE h))) := by
  have ok := ok_X12_cancel
  refine zCT_of pn_X12_cancel (Nat.le_of_ble_eq_true rfl) ?_
  show zGo _ _ _ _ _ _ 0 ([some (.ref 59), some (.int (iI (t))), none, none], [], _, _, _)
  subst ep
  subst ew
  subst ed
  refine s_ldA0 ok rfl ?_
  refine s_ldI1 ok rfl ?_
  refine s_callV ok rfl rfl rfl rfl rfl rfl (ct_isTrain hd.1 zt) ?_
  refine s_if_eq ok rfl zif01 (fun c5 => ?_) (fun c5 => ?_)
  · refine s_ci ok rfl ?_
    refine s_retI ok rfl ⟨congrArg (fun z => some (Value.int (iI z))) (if_neg (fun q => zif_f c5 q)).symm, _, rfl, dE.rf hd⟩
  · have yt := zif_t c5
    have o1 := hd.1.2.1
    have m0 := hd.1.2.2.1
    have m1 := hd.1.2.2.2.1
    obtain ⟨⟨x0, x1⟩, x2⟩ := zxb4 m0 m1 yt.1 (by omega)
    have pO : pOK (zp (h 60) 1 (zxb (h 60 1) t)) := pOK_put hd.1 (by omega)
    refine s_ldA0 ok rfl ?_
    refine s_callVx ok rfl rfl rfl rfl rfl rfl (ct_manyNow (h := h) rfl rfl rfl hd h2) (fun σ13 hσ13 => ?_)
    obtain ⟨g13, rfl, hg13⟩ := hσ13
    obtain ⟨f13, q13⟩ := hg13
    refine s_stI2 ok rfl rfl ?_
    refine s_ldA0 ok rfl ?_
    refine s_getF ok rfl rfl rfl rfl ?_
    refine s_ci ok rfl ?_
    refine s_dup2 ok rfl ?_
    refine s_iald ok rfl (by exact rfl) (by exact rfl) (by omega) (by omega) ?_
    rw [show g13 60 1 = h 60 1 by rw [f13.e60]]
    refine s_ci ok rfl ?_
    refine s_ldI1 ok rfl ?_
    refine s_bin ok rfl (zshl (by omega) (by omega)) ?_
    refine s_bin ok rfl ((zob m0 (by omega) (by omega) (by omega)).2.1) ?_
    refine s_iast ok rfl (by exact rfl) (by exact rfl) (by omega) (by omega) (fun q => by cases q) ?_
    refine s_ldA0 ok rfl ?_
    refine s_callVx ok rfl rfl rfl rfl rfl rfl (ct_manyNow (h := zv g13 60 1 (zxb (h 60 1) t)) (p := zp (h 60) 1 (zxb (h 60 1) t)) (by show zp (g13 60) 1 _ = _; rw [f13.e60]) (by exact f13.e17) (by exact f13.e18) (dP_put f13.2.2 (by rw [f13.e60]; exact pO)) h2) (fun σ30 hσ30 => ?_)
    obtain ⟨g30, rfl, hg30⟩ := hσ30
    obtain ⟨f30, q30⟩ := hg30
    refine s_stI3 ok rfl rfl ?_
    refine s_ldA0 ok rfl ?_
    refine s_getF ok rfl rfl rfl rfl ?_
    refine s_ci ok rfl ?_
    refine s_dup2 ok rfl ?_
    refine s_iald ok rfl (by exact rfl) (by exact rfl) (by omega) (by omega) ?_
    rw [show g30 60 1 = zxb (h 60 1) t by rw [f30.e60]; exact zv_is]
    refine s_ci ok rfl ?_
    refine s_ldI1 ok rfl ?_
    refine s_bin ok rfl (zshl (by omega) (by omega)) ?_
    refine s_bin ok rfl ((zob x0 (by omega) (by omega) (by omega)).2.1) ?_
    refine s_iast ok rfl (by exact rfl) (by exact rfl) (by omega) (by omega) (fun q => by cases q) ?_
    refine s_ldI3 ok rfl ?_
    refine s_ldI2 ok rfl ?_
    refine s_sub ok rfl ?_
    refine s_retI ok rfl ⟨congrArg (fun z => some (Value.int (iI z))) (if_pos yt).symm, _, rfl, by rw [x2]; exact dE_back hd f13 f30⟩
theorem ct_strike {E : zE} {d : Nat} {k : Nat → Nat × Nat} {h : Nat → Int → Int} {r : Nat → Int → Option Nat} {l : Nat → Nat → Int64} {n : Nat} {p : Int → Int} {w : Int} (ep : h 60 = p) (ew : h 59 17 = w) (ed : h 59 18 = 3) (hd : dP h) : zCT E (d + 8) M_X12_strike [.ref 59] (zJ (k, h, r, l, n)) 0 0 (zVx (.int (iI (dMn p w 1))) (zG k r l n (dE h))) := by
  have ok := ok_X12_strike
  refine zCT_of pn_X12_strike (Nat.le_of_ble_eq_true rfl) ?_
  show zGo _ _ _ _ _ _ 0 ([some (.ref 59), none], [], _, _, _)
  refine s_ldA0 ok rfl ?_
  refine s_ci ok rfl ?_
  refine s_putJ 18 ok rfl rfl rfl rfl (fun q => by cases q) ?_
  refine s_ldA0 ok rfl ?_
  refine s_callVx ok rfl rfl rfl rfl rfl rfl (ct_manyNow (h := zv h 59 18 1) (p := p) (w := w) (dd := 1) (by exact ep) (by rw [zv_at (by omega)]; exact ew) (by rw [zv_is]) ⟨hd.1, hd.2.1, hd.2.2.1, hd.2.2.2.1, by rw [zv_at (by omega)]; exact hd.2.2.2.2⟩ ⟨by omega, by omega⟩) (fun σ6 hσ6 => ?_)
  obtain ⟨g6, rfl, hg6⟩ := hσ6
  obtain ⟨f6, q6⟩ := hg6
  refine s_stI1 ok rfl rfl ?_
  refine s_ldA0 ok rfl ?_
  refine s_ci ok rfl ?_
  refine s_putJ 18 ok rfl rfl rfl rfl (fun q => by cases q) ?_
  refine s_ldI1 ok rfl ?_
  refine s_retI ok rfl ⟨rfl, _, rfl, dE_depth ed f6⟩
theorem ct_bestStart {E : zE} {d : Nat} {k : Nat → Nat × Nat} {h : Nat → Int → Int} {r : Nat → Int → Option Nat} {l : Nat → Nat → Int64} {n : Nat} {p : Int → Int} {w dd : Int} (ep : h 60 = p) (ew : h 59 17 = w) (ed : h 59 18 = dd) (hd : dP h) (h2 : zb dd) {t : Int} (zt : zb t) : zCT E (d + 9) M_X12_bestStart [.ref 59, .int (iI (t))] (zJ (k, h, r, l, n)) 0 0 (zVx (.int (iI (if 0 ≤ t ∧ t < p 0 then (sBI (fun v => dMi (zp p (11 + 2 * t) v) w dd) (fun m => max 0 (p (11 + 2 * t) - 20) + (m : Int)) (min 300 (p (11 + 2 * t) + 20) - max 0 (p (11 + 2 * t) - 20) + 1).toNat).1 else -1))) (zG k r l n (dE h))) := by
  have ok := ok_X12_bestStart
  refine zCT_of pn_X12_bestStart (Nat.le_of_ble_eq_true rfl) ?_
  show zGo _ _ _ _ _ _ 0 ([some (.ref 59), some (.int (iI (t))), none], [], _, _, _)
  subst ep
  subst ew
  subst ed
  refine s_ldA0 ok rfl ?_
  refine s_ldI1 ok rfl ?_
  refine s_callV ok rfl rfl rfl rfl rfl rfl (ct_isTrain hd.1 zt) ?_
  refine s_if_eq ok rfl zif01 (fun c5 => ?_) (fun c5 => ?_)
  · refine s_ci ok rfl ?_
    refine s_retI ok rfl ⟨congrArg (fun z => some (Value.int (iI z))) (if_neg (fun q => zif_f c5 q)).symm, _, rfl, dE.rf hd⟩
  · have yt := zif_t c5
    have o1 := hd.1.2.1
    have s9 := hd.1.2.2.2.2.2.2.2.2.2.2.2.2.2.2.2.1 t yt.1 (by omega)
    refine s_ldA0 ok rfl ?_
    refine s_getF ok rfl rfl rfl rfl ?_
    refine s_ci ok rfl ?_
    refine s_ci ok rfl ?_
    refine s_ldI1 ok rfl ?_
    refine s_mul ok rfl ?_
    refine s_add ok rfl ?_
    refine s_iald ok rfl (by exact rfl) (by exact rfl) (by omega) (by omega) ?_
    refine s_stI2 ok rfl rfl ?_
    refine s_ldA0 ok rfl ?_
    refine s_ci ok rfl ?_
    refine s_ci ok rfl ?_
    refine s_ldI1 ok rfl ?_
    refine s_mul ok rfl ?_
    refine s_add ok rfl ?_
    refine s_ci ok rfl ?_
    refine s_ldI2 ok rfl ?_
    refine s_ci ok rfl ?_
    refine s_sub ok rfl ?_
    refine s_callS ok rfl rfl rfl rfl (ct_most ⟨by omega, by omega⟩ ⟨by omega, by omega⟩) ?_
    refine s_ci ok rfl ?_
    refine s_ldI2 ok rfl ?_
    refine s_ci ok rfl ?_
    refine s_add ok rfl ?_
    refine s_callS ok rfl rfl rfl rfl (ct_least ⟨by omega, by omega⟩ ⟨by omega, by omega⟩) ?_
    refine s_ci ok rfl ?_
    refine s_callVx ok rfl rfl rfl rfl rfl rfl (ct_bestIn (h := h) (V := fun m => max 0 (h 60 (11 + 2 * t) - 20) + (m : Int)) (n9 := (min 300 (h 60 (11 + 2 * t) + 20) - max 0 (h 60 (11 + 2 * t) - 20) + 1).toNat) rfl rfl rfl hd h2 (by omega) (by omega) (by omega) (by show max 0 (h 60 (11 + 2 * t) - 20) + ((0 : Nat) : Int) = _; omega) (fun m => by show max 0 (h 60 (11 + 2 * t) - 20) + ((m + 1 : Nat) : Int) = max 0 (h 60 (11 + 2 * t) - 20) + (m : Int) + 1; omega) ⟨by omega, by omega⟩ (fun m hm => by show zb (max 0 (h 60 (11 + 2 * t) - 20) + (m : Int)); exact ⟨by omega, by omega⟩) (fun m hm => ⟨by show max 0 (h 60 (11 + 2 * t) - 20) + (m : Int) ≤ _; omega, pOK_put hd.1 (by omega)⟩) (by show _ < max 0 (h 60 (11 + 2 * t) - 20) + (((min 300 (h 60 (11 + 2 * t) + 20) - max 0 (h 60 (11 + 2 * t) - 20) + 1).toNat : Nat) : Int); omega)) (fun σ48 hσ48 => ?_)
    obtain ⟨g48, rfl, hg48⟩ := hσ48
    refine s_retI ok rfl ⟨congrArg (fun z => some (Value.int (iI z))) (if_pos yt).symm, _, rfl, hg48⟩
/-- the first number whose value is N; -4 if none -/
def sNd (B : Int → Int) (N : Int) : Nat → Int
  | 0 => -4
  | c + 1 => if sNd B N c = -4 ∧ B c = N then (c : Int) else sNd B N c
theorem sNd_fix {B : Int → Int} {N : Int} {c : Nat} (hc : ¬ sNd B N c = -4) : ∀ d : Nat, sNd B N (c + d) = sNd B N c
  | 0 => rfl
  | d + 1 => by
    have i := sNd_fix hc d
    show (if sNd B N (c + d) = -4 ∧ B ((c + d : Nat) : Int) = N then ((c + d : Nat) : Int) else sNd B N (c + d)) = _
    rw [i, if_neg (fun q => hc q.1)]
theorem lp_need {E : zE} {d : Nat} {k : Nat → Nat × Nat} {h : Nat → Int → Int} {r : Nat → Int → Option Nat} {l : Nat → Nat → Int64} {n : Nat} {Q : zQ} {p : Int → Int} {w dd : Int} (ep : h 60 = p) (ew : h 59 17 = w) (ed : h 59 18 = dd) (hd : dP h) (h2 : zb dd) {t : Int} (t0 : 0 ≤ t) (t1 : t < p 0) (hQ : ∀ g, dE h g → Q (some (.int (iI (sNd (fun v => dMn (zp p (11 + 2 * t + 1) v) w dd) (p 6) 10)))) (zJ (k, g, r, l, n))) : ∀ c : Nat, ∀ (m : Nat) (g : Nat → Int → Int), dE h g → sNd (fun v => dMn (zp p (11 + 2 * t + 1) v) w dd) (p 6) m = -4 → 10 < m + c → m ≤ 10 → zGo E (d + 8) M_X12_need 0 0 Q 12 ([some (.ref 59), some (.int (iI (t))), some (.int (iI ((m : Int))))], [], zJ (k, g, r, l, n), 0, 0) := by
  have ok := ok_X12_need
  intro c
  induction c with
  | zero =>
    intros
    omega
  | succ c ih =>
    intro m g hE hN g1 g2
    subst ep
    subst ew
    subst ed
    have i60 := dE.e60 hE
    have o1 := hd.1.2.1
    have p6 := hd.1.2.2.2.2.2.2.2.2.2.2.2.2.1
    have p6b := hd.1.2.2.2.2.2.2.2.2.2.2.2.2.2.1
    have e3 : sNd (fun v => dMn (zp (h 60) (11 + 2 * t + 1) v) (h 59 17) (h 59 18)) (h 60 6) (m + 1) = if sNd (fun v => dMn (zp (h 60) (11 + 2 * t + 1) v) (h 59 17) (h 59 18)) (h 60 6) m = -4 ∧ dMn (zp (h 60) (11 + 2 * t + 1) (m : Int)) (h 59 17) (h 59 18) = h 60 6 then (m : Int) else sNd (fun v => dMn (zp (h 60) (11 + 2 * t + 1) v) (h 59 17) (h 59 18)) (h 60 6) m := rfl
    have fx := fun q => sNd_fix (B := (fun v => dMn (zp (h 60) (11 + 2 * t + 1) v) (h 59 17) (h 59 18))) (N := h 60 6) (c := m + 1) q (10 - (m + 1))
    refine s_ldI2 ok rfl ?_
    refine s_ci ok rfl ?_
    refine s_c_ge ok rfl (by first | exact hb _ _ | exact ⟨by omega, by omega⟩) (by first | exact hb _ _ | exact ⟨by omega, by omega⟩) (fun c15 => ?_) (fun c15 => ?_)
    · refine s_ci ok rfl ?_
      refine s_retI ok rfl (by have z := hQ g hE; rw [show 10 = m by omega, hN] at z; exact z)
    · refine s_ldA0 ok rfl ?_
      refine s_ci ok rfl ?_
      refine s_ci ok rfl ?_
      refine s_ldI1 ok rfl ?_
      refine s_mul ok rfl ?_
      refine s_add ok rfl ?_
      refine s_ci ok rfl ?_
      refine s_add ok rfl ?_
      refine s_ldI2 ok rfl ?_
      refine s_callVvx ok rfl rfl rfl rfl rfl rfl (ct_goesWith (h := g) i60 hE.e17 hE.e18 hE.2.2 h2 (by omega) (by omega) (pOK_put hd.1 (by omega))) (fun σ28 hσ28 => ?_)
      obtain ⟨g28, rfl, hg28⟩ := hσ28
      obtain ⟨f28, q28⟩ := hg28
      refine s_ldA0 ok rfl ?_
      refine s_callV ok rfl rfl rfl rfl rfl rfl (ct_am f28.2.2 q28 (by rw [zp_ne (by omega), f28.e60, i60])) ?_
      have z9 := dMn_in (w := h 59 17) (dd := h 59 18) (pOK_put hd.1 (i := 11 + 2 * t + 1) (v := (m : Int)) (by omega))
      rw [zp_ne (by omega)] at z9
      refine s_ldA0 ok rfl ?_
      refine s_getF ok rfl rfl rfl rfl ?_
      refine s_ci ok rfl ?_
      refine s_iald ok rfl (by exact rfl) (by exact rfl) (by omega) (by omega) ?_
      rw [show g28 60 6 = h 60 6 by rw [f28.e60, i60]]
      refine s_c_eq ok rfl (by first | exact hb _ _ | exact ⟨by omega, by omega⟩) (by first | exact hb _ _ | exact ⟨by omega, by omega⟩) (fun c42 => ?_) (fun c42 => ?_)
      · refine s_ldI2 ok rfl ?_
        refine s_retI ok rfl (by rw [if_pos (And.intro hN (by omega))] at e3; have z := hQ g28 (hE.tr f28); rw [show 10 = m + 1 + (10 - (m + 1)) by omega, fx (by omega), e3] at z; exact z)
      · refine s_inc2 ok rfl rfl ?_
        refine s_goto ok rfl ?_
        rw [if_neg (fun q => absurd q.2 (by omega)), hN] at e3
        exact ih (m + 1) g28 (hE.tr f28) e3 (by omega) (by omega)
theorem ct_need {E : zE} {d : Nat} {k : Nat → Nat × Nat} {h : Nat → Int → Int} {r : Nat → Int → Option Nat} {l : Nat → Nat → Int64} {n : Nat} {p : Int → Int} {w dd : Int} (ep : h 60 = p) (ew : h 59 17 = w) (ed : h 59 18 = dd) (hd : dP h) (h2 : zb dd) {t : Int} (zt : zb t) : zCT E (d + 8) M_X12_need [.ref 59, .int (iI (t))] (zJ (k, h, r, l, n)) 0 0 (zVx (.int (iI (if 0 ≤ t ∧ t < p 0 then sNd (fun v => dMn (zp p (11 + 2 * t + 1) v) w dd) (p 6) 10 else -1))) (zG k r l n (dE h))) := by
  have ok := ok_X12_need
  refine zCT_of pn_X12_need (Nat.le_of_ble_eq_true rfl) ?_
  show zGo _ _ _ _ _ _ 0 ([some (.ref 59), some (.int (iI (t))), none], [], _, _, _)
  subst ep
  subst ew
  subst ed
  refine s_ldA0 ok rfl ?_
  refine s_ldI1 ok rfl ?_
  refine s_callV ok rfl rfl rfl rfl rfl rfl (ct_isTrain hd.1 zt) ?_
  refine s_if_eq ok rfl zif01 (fun c5 => ?_) (fun c5 => ?_)
  · refine s_ci ok rfl ?_
    refine s_retI ok rfl ⟨congrArg (fun z => some (Value.int (iI z))) (if_neg (fun q => zif_f c5 q)).symm, _, rfl, dE.rf hd⟩
  · refine s_ci ok rfl ?_
    refine s_stI2 ok rfl rfl ?_
    have yt := zif_t c5
    exact lp_need (E := E) (d := d) (k := k) (r := r) (l := l) (n := n) (h := h) rfl rfl rfl hd h2 yt.1 yt.2 (Q := zVx (.int (iI (if 0 ≤ t ∧ t < h 60 0 then sNd (fun v => dMn (zp (h 60) (11 + 2 * t + 1) v) (h 59 17) (h 59 18)) (h 60 6) 10 else -1))) (zG k r l n (dE h))) (fun g hE => ⟨congrArg (fun z => some (Value.int (iI z))) (if_pos yt).symm, g, rfl, hE⟩) 11 0 h (dE.rf hd) rfl (by omega) (by omega)
/-- how many of the numbers V 0, V 1, .. have the value N, and the last such; -4 if none -/
def sCm (A : Int → Int) (V : Nat → Int) (N : Int) : Nat → Int × Int
  | 0 => (0, -4)
  | c + 1 => if A (V c) = N then ((sCm A V N c).1 + 1, V c) else sCm A V N c
theorem lp_came {E : zE} {d : Nat} {k : Nat → Nat × Nat} {h : Nat → Int → Int} {r : Nat → Int → Option Nat} {l : Nat → Nat → Int64} {n : Nat} {Q : zQ} {p : Int → Int} {w dd : Int} (ep : h 60 = p) (ew : h 59 17 = w) (ed : h 59 18 = dd) (hd : dP h) (h2 : zb dd) {t mi what : Int} (t0 : 0 ≤ t) (t2 : t < p 6) (zm : zb mi) (zw : zb what) (hQ : ∀ g, dE h g → Q (some (.int (iI (if what = 0 then (sCm (fun b => dA (zp p (19 + 5 * t + 4) b) w dd t) (fun m => 300 - (m : Int)) mi 301).1 else (sCm (fun b => dA (zp p (19 + 5 * t + 4) b) w dd t) (fun m => 300 - (m : Int)) mi 301).2)))) (zJ (k, g, r, l, n))) : ∀ c : Nat, ∀ (m : Nat) (g : Nat → Int → Int), dE h g → 301 < m + c → m ≤ 301 → zGo E (d + 8) M_X12_came 0 0 Q 42 ([some (.ref 59), some (.int (iI (t))), some (.int (iI (mi))), some (.int (iI (what))), some (.int (iI ((sCm (fun b => dA (zp p (19 + 5 * t + 4) b) w dd t) (fun m => 300 - (m : Int)) mi m).1))), some (.int (iI ((sCm (fun b => dA (zp p (19 + 5 * t + 4) b) w dd t) (fun m => 300 - (m : Int)) mi m).2))), some (.int (iI (300 - (m : Int))))], [], zJ (k, g, r, l, n), 0, 0) := by
  have ok := ok_X12_came
  intro c
  induction c with
  | zero =>
    intros
    omega
  | succ c ih =>
    intro m g hE g1 g2
    subst ep
    subst ew
    subst ed
    have i60 := dE.e60 hE
    have e3 : sCm (fun b => dA (zp (h 60) (19 + 5 * t + 4) b) (h 59 17) (h 59 18) t) (fun m => 300 - (m : Int)) mi (m + 1) = if dA (zp (h 60) (19 + 5 * t + 4) (300 - (m : Int))) (h 59 17) (h 59 18) t = mi then ((sCm (fun b => dA (zp (h 60) (19 + 5 * t + 4) b) (h 59 17) (h 59 18) t) (fun m => 300 - (m : Int)) mi m).1 + 1, 300 - (m : Int)) else sCm (fun b => dA (zp (h 60) (19 + 5 * t + 4) b) (h 59 17) (h 59 18) t) (fun m => 300 - (m : Int)) mi m := rfl
    have hq : m = 301 → Q (some (.int (iI (if what = 0 then (sCm (fun b => dA (zp (h 60) (19 + 5 * t + 4) b) (h 59 17) (h 59 18) t) (fun m => 300 - (m : Int)) mi m).1 else (sCm (fun b => dA (zp (h 60) (19 + 5 * t + 4) b) (h 59 17) (h 59 18) t) (fun m => 300 - (m : Int)) mi m).2)))) (zJ (k, g, r, l, n)) := fun e => by rw [e]; exact hQ g hE
    generalize sCm (fun b => dA (zp (h 60) (19 + 5 * t + 4) b) (h 59 17) (h 59 18) t) (fun m => 300 - (m : Int)) mi m = q at *
    refine s_ldI6 ok rfl ?_
    refine s_if_lt ok rfl (by first | exact hb _ _ | exact ⟨by omega, by omega⟩) (fun c44 => ?_) (fun c44 => ?_)
    · refine s_ldI3 ok rfl ?_
      refine s_if_eq ok rfl zw (fun c75 => ?_) (fun c75 => ?_)
      · refine s_ldI4 ok rfl ?_
        refine s_goto ok rfl ?_
        refine s_retI ok rfl (by have e := hq (by omega); (first | rw [if_pos c75] at e | rw [if_neg c75] at e); exact e)
      · refine s_ldI5 ok rfl ?_
        refine s_retI ok rfl (by have e := hq (by omega); (first | rw [if_pos c75] at e | rw [if_neg c75] at e); exact e)
    · refine s_ldA0 ok rfl ?_
      refine s_ldI1 ok rfl ?_
      refine s_ldI6 ok rfl ?_
      refine s_callVx ok rfl rfl rfl rfl rfl rfl (ct_arrivesWith (h := g) i60 hE.e17 hE.e18 hE.2.2 h2 t0 t2 (pOK_base hd.1 t0 (by omega) (by omega))) (fun σ51 hσ51 => ?_)
      obtain ⟨g51, rfl, hg51⟩ := hσ51
      obtain ⟨f51, -⟩ := hg51
      have z9 := dA_zb (w := h 59 17) (dd := h 59 18) (t := t) (pOK_base hd.1 t0 (v := 300 - (m : Int)) (by omega) (by omega)) hd.2.2.2.2
      refine s_ldI2 ok rfl ?_
      refine s_c_eq ok rfl z9 zm (fun c55 => ?_) (fun c55 => ?_)
      · refine s_inc4 ok rfl rfl ?_
        refine s_ldI6 ok rfl ?_
        refine s_stI5 ok rfl rfl ?_
        refine s_inc6 ok rfl rfl ?_
        refine s_goto ok rfl ?_
        have hh := ih (m + 1) g51 (hE.tr f51) (by omega) (by omega)
        rw [e3, show (300 : Int) - ((m + 1 : Nat) : Int) = 300 - (m : Int) + -1 by omega] at hh
        first | rw [if_pos c55] at hh | rw [if_neg c55] at hh
        exact hh
      · refine s_goto ok rfl ?_
        refine s_inc6 ok rfl rfl ?_
        refine s_goto ok rfl ?_
        have hh := ih (m + 1) g51 (hE.tr f51) (by omega) (by omega)
        rw [e3, show (300 : Int) - ((m + 1 : Nat) : Int) = 300 - (m : Int) + -1 by omega] at hh
        first | rw [if_pos c55] at hh | rw [if_neg c55] at hh
        exact hh
theorem ct_came {E : zE} {d : Nat} {k : Nat → Nat × Nat} {h : Nat → Int → Int} {r : Nat → Int → Option Nat} {l : Nat → Nat → Int64} {n : Nat} {p : Int → Int} {w dd : Int} (ep : h 60 = p) (ew : h 59 17 = w) (ed : h 59 18 = dd) (hd : dP h) (h2 : zb dd) {t mi what : Int} (zt : zb t) (zm : zb mi) (zw : zb what) : zCT E (d + 8) M_X12_came [.ref 59, .int (iI (t)), .int (iI (mi)), .int (iI (what))] (zJ (k, h, r, l, n)) 0 0 (zVx (.int (iI (if (0 ≤ t ∧ t < p 6) ∧ (0 ≤ mi ∧ mi ≤ 2000) ∧ (0 ≤ what ∧ what ≤ 1) then (if what = 0 then (sCm (fun b => dA (zp p (19 + 5 * t + 4) b) w dd t) (fun m => 300 - (m : Int)) mi 301).1 else (sCm (fun b => dA (zp p (19 + 5 * t + 4) b) w dd t) (fun m => 300 - (m : Int)) mi 301).2) else -1))) (zG k r l n (dE h))) := by
  have ok := ok_X12_came
  refine zCT_of pn_X12_came (Nat.le_of_ble_eq_true rfl) ?_
  show zGo _ _ _ _ _ _ 0 ([some (.ref 59), some (.int (iI (t))), some (.int (iI (mi))), some (.int (iI (what))), none, none, none], [], _, _, _)
  subst ep
  subst ew
  subst ed
  refine s_ldA0 ok rfl ?_
  refine s_ldI1 ok rfl ?_
  refine s_callV ok rfl rfl rfl rfl rfl rfl (ct_isTraveller hd.1 zt) ?_
  refine s_if_eq ok rfl zif01 (fun c5 => ?_) (fun c5 => ?_)
  · refine s_ci ok rfl ?_
    refine s_retI ok rfl ⟨congrArg (fun z => some (Value.int (iI z))) (if_neg (fun q => by first | exact zif_f c25 q.2.2 | exact zif_f c16 q.2.1 | exact zif_f c5 q.1)).symm, _, rfl, dE.rf hd⟩
  · refine s_ldI2 ok rfl ?_
    refine s_ci ok rfl ?_
    refine s_ci ok rfl ?_
    refine s_callS ok rfl rfl rfl rfl (ct_isIn zm ⟨by omega, by omega⟩ ⟨by omega, by omega⟩) ?_
    refine s_if_eq ok rfl zif01 (fun c16 => ?_) (fun c16 => ?_)
    · refine s_ci ok rfl ?_
      refine s_retI ok rfl ⟨congrArg (fun z => some (Value.int (iI z))) (if_neg (fun q => by first | exact zif_f c25 q.2.2 | exact zif_f c16 q.2.1 | exact zif_f c5 q.1)).symm, _, rfl, dE.rf hd⟩
    · refine s_ldI3 ok rfl ?_
      refine s_ci ok rfl ?_
      refine s_ci ok rfl ?_
      refine s_callS ok rfl rfl rfl rfl (ct_isIn zw ⟨by omega, by omega⟩ ⟨by omega, by omega⟩) ?_
      refine s_if_eq ok rfl zif01 (fun c25 => ?_) (fun c25 => ?_)
      · refine s_ci ok rfl ?_
        refine s_retI ok rfl ⟨congrArg (fun z => some (Value.int (iI z))) (if_neg (fun q => by first | exact zif_f c25 q.2.2 | exact zif_f c16 q.2.1 | exact zif_f c5 q.1)).symm, _, rfl, dE.rf hd⟩
      · refine s_ci ok rfl ?_
        refine s_stI4 ok rfl rfl ?_
        refine s_ci ok rfl ?_
        refine s_stI5 ok rfl rfl ?_
        refine s_ci ok rfl ?_
        refine s_stI6 ok rfl rfl ?_
        have yt := zif_t c5
        have y2 := zif_t c16
        have y3 := zif_t c25
        exact lp_came (E := E) (d := d) (k := k) (r := r) (l := l) (n := n) (h := h) rfl rfl rfl hd h2 yt.1 yt.2 zm zw (Q := zVx (.int (iI (if (0 ≤ t ∧ t < h 60 6) ∧ (0 ≤ mi ∧ mi ≤ 2000) ∧ (0 ≤ what ∧ what ≤ 1) then (if what = 0 then (sCm (fun b => dA (zp (h 60) (19 + 5 * t + 4) b) (h 59 17) (h 59 18) t) (fun m => 300 - (m : Int)) mi 301).1 else (sCm (fun b => dA (zp (h 60) (19 + 5 * t + 4) b) (h 59 17) (h 59 18) t) (fun m => 300 - (m : Int)) mi 301).2) else -1))) (zG k r l n (dE h))) (fun g hE => ⟨congrArg (fun z => some (Value.int (iI z))) (if_pos (show (0 ≤ t ∧ t < h 60 6) ∧ (0 ≤ mi ∧ mi ≤ 2000) ∧ (0 ≤ what ∧ what ≤ 1) from ⟨yt, y2, y3⟩)).symm, g, rfl, hE⟩) 302 0 h (dE.rf hd) (by omega) (by omega)
