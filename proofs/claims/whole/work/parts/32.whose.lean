/-! whose -/
theorem zv_self {h : Nat → Int → Int} {n : Nat} {j : Int} : zv h n j (h n j) = h := by
  funext a b
  rw [zv_eq]
  split
  · rename_i q
    rw [q.1, q.2]
  · rfl
theorem lp_whose {E : zE} {d : Nat} {k : Nat → Nat × Nat} {h : Nat → Int → Int} {r : Nat → Int → Option Nat} {l : Nat → Nat → Int64} {n : Nat} {Q : zQ} {p : Int → Int} {dd : Int} (ep : h 60 = p) (ew : h 59 17 = -4) (ed : h 59 18 = dd) (hd : dP h) (h2 : zb dd) {t now : Int} (t0 : 0 ≤ t) (t2 : t < p 6) (w1 : zb now) {np : Nat} (hn : p 6 = (np : Int)) (hQ : ∀ g, dE h g → Q (some (.int (sWh (fun o => dA p o dd t) now t np))) (zJ (k, g, r, l, n))) : ∀ c : Nat, ∀ (m : Nat) (g : Nat → Int → Int) (a : Int), dE (zv h 59 17 a) g → np < m + c → m ≤ np → zGo E (d + 7) M_X12_whose 0 0 Q 25 ([some (.ref 59), some (.int (iI (t))), some (.int (iI (now))), some (.int (sWh (fun o => dA p o dd t) now t m)), some (.int (iI ((m : Int))))], [], zJ (k, g, r, l, n), 0, 0) := by
  have ok := ok_X12_whose
  intro c
  induction c with
  | zero =>
    intros
    omega
  | succ c ih =>
    intro m g a hE g1 g2
    subst ep
    subst ed
    have i60 : g 60 = h 60 := hE.e60
    have i6 : g 60 6 = h 60 6 := by rw [i60]
    have p6 := hd.1.2.2.2.2.2.2.2.2.2.2.2.2.2.1
    have t1 : t < 8 := by omega
    have e3 : sWh (fun o => dA (h 60) o (h 59 18) t) now t (m + 1) = if (m : Int) = t then sWh (fun o => dA (h 60) o (h 59 18) t) now t m else sWh (fun o => dA (h 60) o (h 59 18) t) now t m ||| (if dA (h 60) (m : Int) (h 59 18) t < now then iI 1 <<< (iI (m : Int) &&& 31) else iI 0) := rfl
    have hq : m = np → Q (some (.int (sWh (fun o => dA (h 60) o (h 59 18) t) now t m))) (zJ (k, zv g 59 17 (-4), r, l, n)) := fun e => by rw [e]; exact hQ _ (dE_17b ew ⟨by omega, by omega⟩ hE)
    generalize sWh (fun o => dA (h 60) o (h 59 18) t) now t m = q at *
    refine s_ldI4 ok rfl ?_
    refine s_ldA0 ok rfl ?_
    refine s_getF ok rfl rfl rfl rfl ?_
    refine s_ci ok rfl ?_
    refine s_iald ok rfl (by exact rfl) (by exact rfl) (by omega) (by omega) ?_
    refine s_c_ge ok rfl ⟨by omega, by omega⟩ ⟨by omega, by omega⟩ (fun c34 => ?_) (fun c34 => ?_)
    · refine s_ldA0 ok rfl ?_
      refine s_ci ok rfl ?_
      refine s_putJ 17 ok rfl rfl rfl rfl (fun q => by cases q) ?_
      refine s_ldI3 ok rfl ?_
      refine s_retI ok rfl (hq (by omega))
    · refine s_ldI4 ok rfl ?_
      refine s_ldI1 ok rfl ?_
      refine s_c_eq ok rfl ⟨by omega, by omega⟩ ⟨by omega, by omega⟩ (fun c40 => ?_) (fun c40 => ?_)
      · refine s_goto ok rfl ?_
        refine s_inc4 ok rfl rfl ?_
        refine s_goto ok rfl ?_
        first
          | (rw [if_pos c40] at e3; have hh := fun a9 f9 => ih (m + 1) g a9 f9 (by omega) (by omega); rw [e3] at hh; exact hh a hE)
          | (rw [if_neg c40, eB] at e3; have hh := ih (m + 1) _ _ (dE_17 hE (dE_goes hd9).1) (by omega) (by omega); rw [e3] at hh; exact hh)
      · have hd9 : dP (zv g 59 17 (m : Int)) := dP_17 hE.2.2 ⟨by omega, by omega⟩
        have e18 : zv g 59 17 (m : Int) 59 18 = h 59 18 := by rw [zv_at (by omega), hE.2.1 18 (by omega), zv_at (by omega)]
        have e60 : zv g 59 17 (m : Int) 60 = h 60 := i60
        have dg := (dE_goes hd9).2
        rw [e18, e60, zv_is] at dg
        have eA := dg.A t0 (by omega)
        have hm := dA_in (p := h 60) (w := (m : Int)) (dd := h 59 18) (t := t) hd.1 ⟨by omega, by omega⟩
        refine s_ldA0 ok rfl ?_
        refine s_ldI4 ok rfl ?_
        refine s_putJ 17 ok rfl rfl rfl rfl (fun q => by cases q) ?_
        refine s_ldA0 ok rfl ?_
        refine s_callVv ok rfl rfl rfl rfl rfl rfl (ct_goes (h := zv g 59 17 (m : Int)) hd9 (by rw [e18]; exact h2)) ?_
        refine s_ldI3 ok rfl ?_
        refine s_ldA0 ok rfl ?_
        refine s_ldI1 ok rfl ?_
        refine s_callV ok rfl rfl rfl rfl rfl rfl (ct_arrives (dE_goes hd9).1.2.2.2.2.1 t0 t1) ?_
        rw [eA]
        refine s_ldI2 ok rfl ?_
        refine s_c_ge ok rfl ⟨by omega, by omega⟩ w1 (fun c63 => ?_) (fun c63 => ?_)
        · have eB : (if dA (h 60) (m : Int) (h 59 18) t < now then iI 1 <<< (iI (m : Int) &&& 31) else iI 0) = iI 0 := if_neg (by omega)
          refine s_ci ok rfl ?_
          refine s_bin ok rfl (by rfl) ?_
          refine s_stI3 ok rfl rfl ?_
          refine s_inc4 ok rfl rfl ?_
          refine s_goto ok rfl ?_
          first
            | (rw [if_pos c40] at e3; have hh := fun a9 f9 => ih (m + 1) g a9 f9 (by omega) (by omega); rw [e3] at hh; exact hh a hE)
            | (rw [if_neg c40, eB] at e3; have hh := ih (m + 1) _ _ (dE_17 hE (dE_goes hd9).1) (by omega) (by omega); rw [e3] at hh; exact hh)
        · have eB : (if dA (h 60) (m : Int) (h 59 18) t < now then iI 1 <<< (iI (m : Int) &&& 31) else iI 0) = iI 1 <<< (iI (m : Int) &&& 31) := if_pos c63
          refine s_ci ok rfl ?_
          refine s_ldI4 ok rfl ?_
          refine s_bin ok rfl (by rfl) ?_
          refine s_goto ok rfl ?_
          refine s_bin ok rfl (by rfl) ?_
          refine s_stI3 ok rfl rfl ?_
          refine s_inc4 ok rfl rfl ?_
          refine s_goto ok rfl ?_
          first
            | (rw [if_pos c40] at e3; have hh := fun a9 f9 => ih (m + 1) g a9 f9 (by omega) (by omega); rw [e3] at hh; exact hh a hE)
            | (rw [if_neg c40, eB] at e3; have hh := ih (m + 1) _ _ (dE_17 hE (dE_goes hd9).1) (by omega) (by omega); rw [e3] at hh; exact hh)
theorem ct_whose {E : zE} {d : Nat} {k : Nat → Nat × Nat} {h : Nat → Int → Int} {r : Nat → Int → Option Nat} {l : Nat → Nat → Int64} {n : Nat} {p : Int → Int} {dd : Int} (ep : h 60 = p) (ew : h 59 17 = -4) (ed : h 59 18 = dd) (hd : dP h) (h2 : zb dd) {t : Int} (zt : zb t) : zCT E (d + 7) M_X12_whose [.ref 59, .int (iI (t))] (zJ (k, h, r, l, n)) 0 0 (zVx (.int (if 0 ≤ t ∧ t < p 6 then sWh (fun o => dA p o dd t) (dA p (-4) dd t) t (p 6).toNat else iI (-1))) (zG k r l n (dE h))) := by
  have ok := ok_X12_whose
  refine zCT_of pn_X12_whose (Nat.le_of_ble_eq_true rfl) ?_
  show zGo _ _ _ _ _ _ 0 ([some (.ref 59), some (.int (iI (t))), none, none, none], [], _, _, _)
  subst ep
  subst ed
  refine s_ldA0 ok rfl ?_
  refine s_ldI1 ok rfl ?_
  refine s_callV ok rfl rfl rfl rfl rfl rfl (ct_isTraveller hd.1 zt) ?_
  refine s_if_eq ok rfl zif01 (fun c5 => ?_) (fun c5 => ?_)
  · refine s_ci ok rfl ?_
    refine s_retI ok rfl ⟨congrArg (fun z => some (Value.int z)) (if_neg (fun q => zif_f c5 q)).symm, _, rfl, dE.rf hd⟩
  · have yt := zif_t c5
    have t1 : t < 8 := by have := hd.1.2.2.2.2.2.2.2.2.2.2.2.2.2.1; omega
    have dg := (dE_goes hd).2
    rw [ew] at dg
    have eA := dg.A yt.1 yt.2
    refine s_ldA0 ok rfl ?_
    refine s_callVv ok rfl rfl rfl rfl rfl rfl (ct_goes hd (by exact h2)) ?_
    refine s_ldA0 ok rfl ?_
    refine s_ldI1 ok rfl ?_
    refine s_callV ok rfl rfl rfl rfl rfl rfl (ct_arrives (dE_goes hd).1.2.2.2.2.1 yt.1 t1) ?_
    rw [eA]
    refine s_stI2 ok rfl rfl ?_
    refine s_ci ok rfl ?_
    refine s_stI3 ok rfl rfl ?_
    refine s_ci ok rfl ?_
    refine s_stI4 ok rfl rfl ?_
    have f0 : dE (zv h 59 17 (h 59 17)) (sGoes h) := by rw [zv_self]; exact (dE_goes hd).1
    exact lp_whose (E := E) (d := d) (k := k) (r := r) (l := l) (n := n) (h := h) rfl ew rfl hd h2 yt.1 yt.2 (dA_zb hd.1 ⟨by omega, by omega⟩) (np := (h 60 6).toNat) (by omega) (Q := zVx (.int (if 0 ≤ t ∧ t < h 60 6 then sWh (fun o => dA (h 60) o (h 59 18) t) (dA (h 60) (-4) (h 59 18) t) t (h 60 6).toNat else iI (-1))) (zG k r l n (dE h))) (fun g hE => ⟨congrArg (fun z => some (Value.int z)) (if_pos yt).symm, g, rfl, hE⟩) ((h 60 6).toNat + 1) 0 _ _ f0 (by omega) (by omega)
