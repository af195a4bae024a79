/-! judge -/
/-- where t is at the minute b -/
def sPA (g : Nat → Int → Int) (p : Int → Int) (t b : Int) : Int := if 0 ≤ g 69 t ∧ g 70 t ≤ b then (if g 71 t ≤ b then pOf p t else 5) else if b < pCm p t then 6 else pFr p t
/-- the number j of the row on the shelf x is wrong -/
def sJw (h : Nat → Int → Int) (D : Nat → Int → Int) (p : Int → Int) (t x j : Int) : Bool := decide (¬ h 85 (100 * x + j) = kLe (h 83 x) ∧ ¬ h 85 (100 * x + j) = sPA D p t (10 * j))
theorem sPA_zb {g : Nat → Int → Int} {p : Int → Int} {t b : Int} (hp : pOK p) (t0 : 0 ≤ t) (t1 : t < 8) : zb (sPA g p t b) := by
  have h1 := pOf_b hp t0 t1
  have h2 := hp.2.2.2.2.2.2.2.2.2.2.2.2.2.2.2.2 t t0 t1
  unfold sPA zb
  (repeat' split) <;> omega
theorem lp_judge {E : zE} {d : Nat} {k : Nat → Nat × Nat} {h : Nat → Int → Int} {r : Nat → Int → Option Nat} {l : Nat → Nat → Int64} {n : Nat} {Q : zQ} {p : Int → Int} {w dd : Int} (ep : h 60 = p) (ew : h 59 17 = w) (ed : h 59 18 = dd) (hd : dP h) (h2 : zb dd) (hk : dKp h) {t x no : Int} {g : Nat → Int → Int} (hE : dE h g) (hD : dD g p w dd) (t0 : 0 ≤ t) (t2 : t < p 6) (x0 : 0 ≤ x) (x1 : x < 8) {n9 : Nat} (hn : h 84 x = (n9 : Int)) (hQ : Q (some (.int (iI (if sFst (sJw h (dN p w dd) p t x) n9 = n9 then -4 else sFst (sJw h (dN p w dd) p t x) n9)))) (zJ (k, g, r, l, n))) : ∀ c : Nat, ∀ (m : Nat) (u : Option Value), sFst (sJw h (dN p w dd) p t x) m = m → n9 < m + c → m ≤ n9 → zGo E (d + 7) M_X12_judge 0 0 Q 30 ([some (.ref 59), some (.int (iI (t))), some (.int (iI (x))), some (.int (iI (no))), some (.int (iI ((m : Int)))), u], [], zJ (k, g, r, l, n), 0, 0) := by
  have ok := ok_X12_judge
  intro c
  induction c with
  | zero =>
    intros
    omega
  | succ c ih =>
    intro m u hm g1 g2
    subst ep
    subst ew
    subst ed
    have i60 : g 60 = h 60 := hE.e60
    have hkg := hk.e hE
    have s0 := hk.2.2.1 x
    have t1 : t < 8 := by have := hd.1.2.2.2.2.2.2.2.2.2.2.2.2.2.1; omega
    have e84 : g 84 x = h 84 x := by rw [hE.1 84 (by omega) (by omega)]
    have e83 : g 83 x = h 83 x := by rw [hE.1 83 (by omega) (by omega)]
    have e85 : g 85 (100 * x + (m : Int)) = h 85 (100 * x + (m : Int)) := by rw [hE.1 85 (by omega) (by omega)]
    have bb := dB_dN (dd := h 59 18) hd.1 hd.2.2.2.2 t
    have e69 := hD.1 69 (by omega) (by omega) t t0 t2
    have e70 := hD.1 70 (by omega) (by omega) t t0 t2
    have e71 := hD.1 71 (by omega) (by omega) t t0 t2
    have eP : (if 0 ≤ g 69 t ∧ g 70 t ≤ 10 * (m : Int) then (if g 71 t ≤ 10 * (m : Int) then pOf (g 60) t else 5) else if 10 * (m : Int) < pCm (g 60) t then 6 else pFr (g 60) t) = sPA (dN (h 60) (h 59 17) (h 59 18)) (h 60) t (10 * (m : Int)) := by
      unfold sPA
      rw [e69, e70, e71, i60]
    have zP := sPA_zb (g := dN (h 60) (h 59 17) (h 59 18)) (b := 10 * (m : Int)) hd.1 t0 t1
    have e3 : sFst (sJw h (dN (h 60) (h 59 17) (h 59 18)) (h 60) t x) (m + 1) = if sFst (sJw h (dN (h 60) (h 59 17) (h 59 18)) (h 60) t x) m < m then sFst (sJw h (dN (h 60) (h 59 17) (h 59 18)) (h 60) t x) m else if (sJw h (dN (h 60) (h 59 17) (h 59 18)) (h 60) t x) m = true then (m : Int) else (m : Int) + 1 := rfl
    rw [if_neg (by omega)] at e3
    have fx := fun q => sFst_fix (W := (sJw h (dN (h 60) (h 59 17) (h 59 18)) (h 60) t x)) (c := m + 1) q (n9 - (m + 1))
    refine s_ldI4 ok rfl ?_
    refine s_ldA0 ok rfl ?_
    refine s_getF ok rfl rfl rfl rfl ?_
    refine s_ldI2 ok rfl ?_
    refine s_iald ok rfl (by exact rfl) (by exact rfl) (by omega) (by omega) ?_
    rw [e84]
    refine s_c_ge ok rfl (by first | exact hb _ _ | exact ⟨by omega, by omega⟩) (by first | exact hb _ _ | exact ⟨by omega, by omega⟩) (fun c38 => ?_) (fun c38 => ?_)
    · refine s_ci ok rfl ?_
      refine s_retI ok rfl (by have z := hQ; rw [show n9 = m by omega, if_pos hm] at z; exact z)
    · refine s_ldA0 ok rfl ?_
      refine s_getF ok rfl rfl rfl rfl ?_
      refine s_ci ok rfl ?_
      refine s_ldI2 ok rfl ?_
      refine s_mul ok rfl ?_
      refine s_ldI4 ok rfl ?_
      refine s_add ok rfl ?_
      refine s_iald ok rfl (by exact rfl) (by exact rfl) (by omega) (by omega) ?_
      rw [e85]
      refine s_stI5 ok rfl rfl ?_
      refine s_ldI5 ok rfl ?_
      refine s_ldA0 ok rfl ?_
      refine s_ldA0 ok rfl ?_
      refine s_getF ok rfl rfl rfl rfl ?_
      refine s_ldI2 ok rfl ?_
      refine s_iald ok rfl (by exact rfl) (by exact rfl) (by omega) (by omega) ?_
      rw [e83]
      refine s_callV ok rfl rfl rfl rfl rfl rfl (ct_leastOf (hk.2.1 x)) ?_
      refine s_c_eq ok rfl (hk.2.2.2 _) kLe_zb (fun c67 => ?_) (fun c67 => ?_)
      · refine s_inc4 ok rfl rfl ?_
        refine s_goto ok rfl ?_
        have ew : ¬ (sJw h (dN (h 60) (h 59 17) (h 59 18)) (h 60) t x) m = true := by
          unfold sJw
          intro q
          have q := of_decide_eq_true q
          first | exact q.1 c67 | exact q.2 c82
        rw [if_neg ew] at e3
        exact ih (m + 1) _ (by rw [e3]; omega) (by omega) (by omega)
      · refine s_ldI5 ok rfl ?_
        refine s_ldA0 ok rfl ?_
        refine s_ldI1 ok rfl ?_
        refine s_ci ok rfl ?_
        refine s_ldI4 ok rfl ?_
        refine s_mul ok rfl ?_
        refine s_callV ok rfl rfl rfl rfl rfl rfl (ct_placeAt (by rw [i60]; exact hd.1) t0 t1 ⟨by omega, by omega⟩ (hE.2.2.2.1 _) (by rw [e70]; exact ⟨by omega, by omega⟩) (hE.2.2.2.2.1 _)) ?_
        rw [eP]
        refine s_c_eq ok rfl (hk.2.2.2 _) zP (fun c82 => ?_) (fun c82 => ?_)
        · refine s_inc4 ok rfl rfl ?_
          refine s_goto ok rfl ?_
          have ew : ¬ (sJw h (dN (h 60) (h 59 17) (h 59 18)) (h 60) t x) m = true := by
            unfold sJw
            intro q
            have q := of_decide_eq_true q
            first | exact q.1 c67 | exact q.2 c82
          rw [if_neg ew] at e3
          exact ih (m + 1) _ (by rw [e3]; omega) (by omega) (by omega)
        · refine s_ldI4 ok rfl ?_
          refine s_retI ok rfl (by have ew : (sJw h (dN (h 60) (h 59 17) (h 59 18)) (h 60) t x) m = true := decide_eq_true (And.intro c67 c82); rw [if_pos ew] at e3; have z := hQ; rw [show n9 = m + 1 + (n9 - (m + 1)) by omega, fx (by omega), e3, if_neg (by omega)] at z; exact z)
theorem ct_judge {E : zE} {d : Nat} {k : Nat → Nat × Nat} {h : Nat → Int → Int} {r : Nat → Int → Option Nat} {l : Nat → Nat → Int64} {n : Nat} {p : Int → Int} {w dd : Int} (ep : h 60 = p) (ew : h 59 17 = w) (ed : h 59 18 = dd) (hd : dP h) (h2 : zb dd) (hk : dKp h) {t x : Int} (zt : zb t) (zx : zb x) : zCT E (d + 7) M_X12_judge [.ref 59, .int (iI (t)), .int (iI (x))] (zJ (k, h, r, l, n)) 0 0 (zVx (.int (iI (if 0 ≤ t ∧ t < p 6 then (if sWR h x (-1) = 0 then (if sFst (sJw h (dN p w dd) p t x) (h 84 x).toNat = (h 84 x).toNat then -4 else sFst (sJw h (dN p w dd) p t x) (h 84 x).toNat) else sWR h x (-1)) else -1))) (zG k r l n (dE h))) := by
  have ok := ok_X12_judge
  refine zCT_of pn_X12_judge (Nat.le_of_ble_eq_true rfl) ?_
  show zGo _ _ _ _ _ _ 0 ([some (.ref 59), some (.int (iI (t))), some (.int (iI (x))), none, none, none], [], _, _, _)
  subst ep
  subst ew
  subst ed
  obtain ⟨w0, w1, w2⟩ := sWR_in (h := h) (x := x) (b := -1)
  have s0 := hk.2.2.1 x
  refine s_ldA0 ok rfl ?_
  refine s_ldI1 ok rfl ?_
  refine s_callV ok rfl rfl rfl rfl rfl rfl (ct_isTraveller hd.1 zt) ?_
  refine s_if_eq ok rfl zif01 (fun c5 => ?_) (fun c5 => ?_)
  · refine s_ci ok rfl ?_
    refine s_retI ok rfl ⟨congrArg (fun z => some (Value.int (iI z))) (if_neg (fun q => zif_f c5 q)).symm, _, rfl, dE.rf hd⟩
  · refine s_ldA0 ok rfl ?_
    refine s_ldI2 ok rfl ?_
    refine s_ci ok rfl ?_
    refine s_callV ok rfl rfl rfl rfl rfl rfl (ct_wrongRow zx ⟨by omega, by omega⟩ hk.1 hk.2.1) ?_
    refine s_stI3 ok rfl rfl ?_
    refine s_ldI3 ok rfl ?_
    refine s_if_eq ok rfl ⟨by omega, by omega⟩ (fun c18 => ?_) (fun c18 => ?_)
    · refine s_ldA0 ok rfl ?_
      refine s_callVv ok rfl rfl rfl rfl rfl rfl (ct_goes hd (by exact h2)) ?_
      refine s_ci ok rfl ?_
      refine s_stI4 ok rfl rfl ?_
      have yt := zif_t c5
      obtain ⟨hE, hD⟩ := dE_goes hd
      exact lp_judge (E := E) (d := d) (k := k) (r := r) (l := l) (n := n) (h := h) rfl rfl rfl hd h2 hk hE hD yt.1 yt.2 (w2 c18).1 (w2 c18).2 (n9 := (h 84 x).toNat) (by omega) (Q := zVx (.int (iI (if 0 ≤ t ∧ t < h 60 6 then (if sWR h x (-1) = 0 then (if sFst (sJw h (dN (h 60) (h 59 17) (h 59 18)) (h 60) t x) (h 84 x).toNat = (h 84 x).toNat then -4 else sFst (sJw h (dN (h 60) (h 59 17) (h 59 18)) (h 60) t x) (h 84 x).toNat) else sWR h x (-1)) else -1))) (zG k r l n (dE h))) ⟨congrArg (fun z => some (Value.int (iI z))) ((if_pos yt).trans (if_pos c18)).symm, _, rfl, hE⟩ ((h 84 x).toNat + 1) 0 none rfl (by omega) (by omega)
    · refine s_ldI3 ok rfl ?_
      refine s_retI ok rfl ⟨congrArg (fun z => some (Value.int (iI z))) ((if_pos (zif_t c5)).trans (if_neg c18)).symm, _, rfl, dE.rf hd⟩
