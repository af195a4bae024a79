/-! tickets, forged -/
theorem sFst_cg {W V : Int → Bool} : ∀ c : Nat, (∀ j : Int, 0 ≤ j → j < c → W j = V j) → sFst W c = sFst V c
  | 0, _ => rfl
  | c + 1, hj => by
    have i := sFst_cg c (fun j j0 j1 => hj j j0 (by omega))
    unfold sFst
    rw [i, hj c (by omega) (by omega)]
theorem sFst_in {W : Int → Bool} : ∀ c : Nat, 0 ≤ sFst W c ∧ sFst W c ≤ c
  | 0 => ⟨Int.le_refl _, Int.le_refl _⟩
  | c + 1 => by
    have i := sFst_in (W := W) c
    unfold sFst
    split
    · omega
    · split <;> omega
/-- the first wrong ticket of the row on the shelf x, by the rule late = v; the size, if none is -/
def dTk (h : Nat → Int → Int) (p : Int → Int) (w dd x v : Int) : Int := sFst (sTw h (dN (zp p 2 v) w dd 69) x) (h 84 x).toNat
theorem dTk_eq {h g : Nat → Int → Int} {p : Int → Int} {w dd x v : Int} (f : dE h g) (q : dD g (zp p 2 v) w dd) (s : h 84 x ≤ p 6) : sFst (sTw g (g 69) x) (g 84 x).toNat = dTk h p w dd x v := by
  unfold dTk
  rw [f.1 84 (by omega) (by omega)]
  refine sFst_cg _ fun j j0 j1 => ?_
  unfold sTw
  rw [f.1 85 (by omega) (by omega), f.1 83 (by omega) (by omega), q.1 69 (by omega) (by omega) j j0 (by rw [zp_ne (by omega)]; omega)]
theorem dKp.e {h g : Nat → Int → Int} (a : dKp h) (f : dE h g) : dKp g := by
  unfold dKp
  rw [f.1 80 (by omega) (by omega), f.1 83 (by omega) (by omega), f.1 84 (by omega) (by omega), f.1 85 (by omega) (by omega)]
  exact a
def sTks (T : Int → Int) (sz : Int) : Nat → Int × Int
  | 0 => (0, -4)
  | c + 1 => if T (30 - (c : Int)) < sz then sTks T sz c else ((sTks T sz c).1 + 1, 30 - (c : Int))
def sFg (T : Int → Int) : Nat → Int
  | 0 => 0
  | c + 1 => max (sFg T c) (T c)
theorem sFg_in {T : Int → Int} (hT : ∀ v, 0 ≤ T v ∧ T v ≤ 8) : ∀ c : Nat, 0 ≤ sFg T c ∧ sFg T c ≤ 8
  | 0 => ⟨Int.le_refl _, by show (0 : Int) ≤ 8; omega⟩
  | c + 1 => by
    have i := sFg_in hT c
    have j := hT c
    show 0 ≤ max (sFg T c) (T c) ∧ max (sFg T c) (T c) ≤ 8
    omega
theorem lp_tickets {E : zE} {d : Nat} {k : Nat → Nat × Nat} {h : Nat → Int → Int} {r : Nat → Int → Option Nat} {l : Nat → Nat → Int64} {n : Nat} {Q : zQ} {p : Int → Int} {w dd : Int} (ep : h 60 = p) (ew : h 59 17 = w) (ed : h 59 18 = dd) (hd : dP h) (h2 : zb dd) (hk : dKp h) {x : Int} (x0 : 0 ≤ x) (x1 : x < 8) (s6 : h 84 x ≤ p 6) {what : Int} (zw : zb what) (hQ : ∀ g, dE h g → Q (some (.int (iI (if what = 0 then (sTks (dTk h p w dd x) (h 84 x) 31).1 else (sTks (dTk h p w dd x) (h 84 x) 31).2)))) (zJ (k, g, r, l, n))) : ∀ c : Nat, ∀ (m : Nat) (g : Nat → Int → Int) (u : Option Value), znl u = true → dE h g → 31 < m + c → m ≤ 31 → zGo E (d + 8) M_X12_tickets 0 0 Q 34 ([some (.ref 59), some (.int (iI (x))), some (.int (iI (what))), u, some (.int (iI ((sTks (dTk h p w dd x) (h 84 x) m).1))), some (.int (iI ((sTks (dTk h p w dd x) (h 84 x) m).2))), some (.int (iI (30 - (m : Int))))], [], zJ (k, g, r, l, n), 0, 0) := by
  have ok := ok_X12_tickets
  intro c
  induction c with
  | zero =>
    intros
    omega
  | succ c ih =>
    intro m g u hu hE g1 g2
    subst ep
    subst ew
    subst ed
    have i60 := dE.e60 hE
    have p6 := hd.1.2.2.2.2.2.2.2.2.2.2.2.2.2.1
    have s0 := hk.2.2.1 x
    have tr : ∀ v, 0 ≤ (dTk h (h 60) (h 59 17) (h 59 18) x) v ∧ (dTk h (h 60) (h 59 17) (h 59 18) x) v ≤ 8 := fun v => by
      have z := sFst_in (W := sTw h (dN (zp (h 60) 2 v) (h 59 17) (h 59 18) 69) x) (h 84 x).toNat
      unfold dTk
      omega
    have e3 : sTks (dTk h (h 60) (h 59 17) (h 59 18) x) (h 84 x) (m + 1) = if (dTk h (h 60) (h 59 17) (h 59 18) x) (30 - (m : Int)) < h 84 x then sTks (dTk h (h 60) (h 59 17) (h 59 18) x) (h 84 x) m else ((sTks (dTk h (h 60) (h 59 17) (h 59 18) x) (h 84 x) m).1 + 1, 30 - (m : Int)) := rfl
    have hq : m = 31 → Q (some (.int (iI (if what = 0 then (sTks (dTk h (h 60) (h 59 17) (h 59 18) x) (h 84 x) m).1 else (sTks (dTk h (h 60) (h 59 17) (h 59 18) x) (h 84 x) m).2)))) (zJ (k, g, r, l, n)) := fun e => by rw [e]; exact hQ g hE
    generalize sTks (dTk h (h 60) (h 59 17) (h 59 18) x) (h 84 x) m = q at *
    refine s_ldI6 ok rfl ?_
    refine s_if_lt ok rfl (by first | exact hb _ _ | exact ⟨by omega, by omega⟩) (fun c36 => ?_) (fun c36 => ?_)
    · refine s_ldI2 ok rfl ?_
      refine s_if_eq ok rfl zw (fun c77 => ?_) (fun c77 => ?_)
      · refine s_ldI4 ok rfl ?_
        refine s_goto ok rfl ?_
        refine s_retI ok rfl (by have e := hq (by omega); (first | rw [if_pos c77] at e | rw [if_neg c77] at e); exact e)
      · refine s_ldI5 ok rfl ?_
        refine s_retI ok rfl (by have e := hq (by omega); (first | rw [if_pos c77] at e | rw [if_neg c77] at e); exact e)
    · refine s_ldA0 ok rfl ?_
      refine s_ci ok rfl ?_
      refine s_ldI6 ok rfl ?_
      refine s_callVvx ok rfl rfl rfl rfl rfl rfl (ct_goesWith (h := g) i60 hE.e17 hE.e18 hE.2.2 h2 (by omega) (by omega) (pOK_put hd.1 (v := 30 - (m : Int)) (by omega))) (fun σ43 hσ43 => ?_)
      obtain ⟨g43, rfl, hg43⟩ := hσ43
      obtain ⟨f43, q43⟩ := hg43
      have F := hE.tr f43
      have e84 : g43 84 x = h 84 x := by rw [F.1 84 (by omega) (by omega)]
      have eT := dTk_eq F q43 s6
      refine s_ldA0 ok rfl ?_
      refine s_ldI1 ok rfl ?_
      refine s_callV ok rfl rfl rfl rfl rfl rfl (ct_wrongTicket (hk.e F) F.2.2.2.1 x0 x1 (by rw [e84]; omega)) ?_
      rw [eT]
      have tm := tr (30 - (m : Int))
      refine s_ldA0 ok rfl ?_
      refine s_getF ok rfl rfl rfl rfl ?_
      refine s_ldI1 ok rfl ?_
      refine s_iald ok rfl (by exact rfl) (by exact rfl) (by omega) (by omega) ?_
      rw [e84]
      refine s_c_ge ok rfl (by first | exact hb _ _ | exact ⟨by omega, by omega⟩) (by first | exact hb _ _ | exact ⟨by omega, by omega⟩) (fun c57 => ?_) (fun c57 => ?_)
      · refine s_inc4 ok rfl hu ?_
        refine s_ldI6 ok rfl ?_
        refine s_stI5 ok rfl rfl ?_
        refine s_inc6 ok rfl rfl ?_
        refine s_goto ok rfl ?_
        have hh := ih (m + 1) g43 u hu (hE.tr f43) (by omega) (by omega)
        rw [e3, show (30 : Int) - ((m + 1 : Nat) : Int) = 30 - (m : Int) + -1 by omega] at hh
        first | rw [if_pos c57] at hh | rw [if_neg (by omega)] at hh
        exact hh
      · refine s_goto ok rfl ?_
        refine s_inc6 ok rfl rfl ?_
        refine s_goto ok rfl ?_
        have hh := ih (m + 1) g43 u hu (hE.tr f43) (by omega) (by omega)
        rw [e3, show (30 : Int) - ((m + 1 : Nat) : Int) = 30 - (m : Int) + -1 by omega] at hh
        first | rw [if_pos c57] at hh | rw [if_neg (by omega)] at hh
        exact hh
theorem lp_forged {E : zE} {d : Nat} {k : Nat → Nat × Nat} {h : Nat → Int → Int} {r : Nat → Int → Option Nat} {l : Nat → Nat → Int64} {n : Nat} {Q : zQ} {p : Int → Int} {w dd : Int} (ep : h 60 = p) (ew : h 59 17 = w) (ed : h 59 18 = dd) (hd : dP h) (h2 : zb dd) (hk : dKp h) {x : Int} (x0 : 0 ≤ x) (x1 : x < 8) (s6 : h 84 x ≤ p 6) (hQ : ∀ g, dE h g → Q (some (.int (iI (if sFg (dTk h p w dd x) 31 = h 84 x then -4 else sFg (dTk h p w dd x) 31)))) (zJ (k, g, r, l, n))) : ∀ c : Nat, ∀ (m : Nat) (g : Nat → Int → Int) (u : Option Value), znl u = true → dE h g → 31 < m + c → m ≤ 31 → zGo E (d + 8) M_X12_forged 0 0 Q 17 ([some (.ref 59), some (.int (iI (x))), u, some (.int (iI (sFg (dTk h p w dd x) m))), some (.int (iI ((m : Int))))], [], zJ (k, g, r, l, n), 0, 0) := by
  have ok := ok_X12_forged
  intro c
  induction c with
  | zero =>
    intros
    omega
  | succ c ih =>
    intro m g u hu hE g1 g2
    subst ep
    subst ew
    subst ed
    have i60 := dE.e60 hE
    have p6 := hd.1.2.2.2.2.2.2.2.2.2.2.2.2.2.1
    have s0 := hk.2.2.1 x
    have tr : ∀ v, 0 ≤ (dTk h (h 60) (h 59 17) (h 59 18) x) v ∧ (dTk h (h 60) (h 59 17) (h 59 18) x) v ≤ 8 := fun v => by
      have z := sFst_in (W := sTw h (dN (zp (h 60) 2 v) (h 59 17) (h 59 18) 69) x) (h 84 x).toNat
      unfold dTk
      omega
    have fi := sFg_in tr m
    have e3 : sFg (dTk h (h 60) (h 59 17) (h 59 18) x) (m + 1) = max (sFg (dTk h (h 60) (h 59 17) (h 59 18) x) m) ((dTk h (h 60) (h 59 17) (h 59 18) x) (m : Int)) := rfl
    have e84g : g 84 x = h 84 x := by rw [hE.1 84 (by omega) (by omega)]
    have hq : m = 31 → Q (some (.int (iI (if sFg (dTk h (h 60) (h 59 17) (h 59 18) x) m = h 84 x then -4 else sFg (dTk h (h 60) (h 59 17) (h 59 18) x) m)))) (zJ (k, g, r, l, n)) := fun e => by rw [e]; exact hQ g hE
    generalize sFg (dTk h (h 60) (h 59 17) (h 59 18) x) m = q at *
    refine s_ldI4 ok rfl ?_
    refine s_ci ok rfl ?_
    refine s_c_gt ok rfl (by first | exact hb _ _ | exact ⟨by omega, by omega⟩) (by first | exact hb _ _ | exact ⟨by omega, by omega⟩) (fun c21 => ?_) (fun c21 => ?_)
    · refine s_ldI3 ok rfl ?_
      refine s_ldA0 ok rfl ?_
      refine s_getF ok rfl rfl rfl rfl ?_
      refine s_ldI1 ok rfl ?_
      refine s_iald ok rfl (by exact rfl) (by exact rfl) (by omega) (by omega) ?_
      rw [e84g]
      refine s_c_eq ok rfl (by first | exact hb _ _ | exact ⟨by omega, by omega⟩) (by first | exact hb _ _ | exact ⟨by omega, by omega⟩) (fun c54 => ?_) (fun c54 => ?_)
      · refine s_ci ok rfl ?_
        refine s_goto ok rfl ?_
        refine s_retI ok rfl (by have e := hq (by omega); (first | rw [if_pos c54] at e | rw [if_neg c54] at e); exact e)
      · refine s_ldI3 ok rfl ?_
        refine s_retI ok rfl (by have e := hq (by omega); (first | rw [if_pos c54] at e | rw [if_neg c54] at e); exact e)
    · refine s_ldA0 ok rfl ?_
      refine s_ci ok rfl ?_
      refine s_ldI4 ok rfl ?_
      refine s_callVvx ok rfl rfl rfl rfl rfl rfl (ct_goesWith (h := g) i60 hE.e17 hE.e18 hE.2.2 h2 (by omega) (by omega) (pOK_put hd.1 (v := (m : Int)) (by omega))) (fun σ28 hσ28 => ?_)
      obtain ⟨g28, rfl, hg28⟩ := hσ28
      obtain ⟨f28, q28⟩ := hg28
      have F := hE.tr f28
      have e84 : g28 84 x = h 84 x := by rw [F.1 84 (by omega) (by omega)]
      have eT := dTk_eq F q28 s6
      refine s_ldI3 ok rfl ?_
      refine s_ldA0 ok rfl ?_
      refine s_ldI1 ok rfl ?_
      refine s_callV ok rfl rfl rfl rfl rfl rfl (ct_wrongTicket (hk.e F) F.2.2.2.1 x0 x1 (by rw [e84]; omega)) ?_
      rw [eT]
      have tm := tr (m : Int)
      refine s_callS ok rfl rfl rfl rfl (ct_most ⟨by omega, by omega⟩ ⟨by omega, by omega⟩) ?_
      refine s_stI3 ok rfl hu ?_
      refine s_inc4 ok rfl rfl ?_
      refine s_goto ok rfl ?_
      have hh := ih (m + 1) g28 u hu (hE.tr f28) (by omega) (by omega)
      rw [e3] at hh
      exact hh
theorem sWT_in {h : Nat → Int → Int} {x : Int} : (-13 ≤ (if ¬ sWR h x (-1) = 0 then sWR h x (-1) else if h 60 6 < h 84 x then -13 else 0) ∧ (if ¬ sWR h x (-1) = 0 then sWR h x (-1) else if h 60 6 < h 84 x then -13 else 0) ≤ 0) ∧ ((if ¬ sWR h x (-1) = 0 then sWR h x (-1) else if h 60 6 < h 84 x then -13 else 0) = 0 → (0 ≤ x ∧ x < 8) ∧ h 84 x ≤ h 60 6) := by
  have := sWR_in (h := h) (x := x) (b := -1)
  (repeat' split) <;> omega
theorem ct_tickets {E : zE} {d : Nat} {k : Nat → Nat × Nat} {h : Nat → Int → Int} {r : Nat → Int → Option Nat} {l : Nat → Nat → Int64} {n : Nat} {p : Int → Int} {w dd : Int} (ep : h 60 = p) (ew : h 59 17 = w) (ed : h 59 18 = dd) (hd : dP h) (h2 : zb dd) (hk : dKp h) {x what : Int} (zx : zb x) (zw : zb what) : zCT E (d + 8) M_X12_tickets [.ref 59, .int (iI (x)), .int (iI (what))] (zJ (k, h, r, l, n)) 0 0 (zVx (.int (iI (if 0 ≤ what ∧ what ≤ 1 then (if (if ¬ sWR h x (-1) = 0 then sWR h x (-1) else if p 6 < h 84 x then -13 else 0) = 0 then (if what = 0 then (sTks (dTk h p w dd x) (h 84 x) 31).1 else (sTks (dTk h p w dd x) (h 84 x) 31).2) else (if ¬ sWR h x (-1) = 0 then sWR h x (-1) else if p 6 < h 84 x then -13 else 0)) else -1))) (zG k r l n (dE h))) := by
  have ok := ok_X12_tickets
  refine zCT_of pn_X12_tickets (Nat.le_of_ble_eq_true rfl) ?_
  show zGo _ _ _ _ _ _ 0 ([some (.ref 59), some (.int (iI (x))), some (.int (iI (what))), none, none, none, none], [], _, _, _)
  subst ep
  subst ew
  subst ed
  obtain ⟨wt0, wt1⟩ := sWT_in (h := h) (x := x)
  refine s_ldI2 ok rfl ?_
  refine s_ci ok rfl ?_
  refine s_ci ok rfl ?_
  refine s_callS ok rfl rfl rfl rfl (ct_isIn zw ⟨by omega, by omega⟩ ⟨by omega, by omega⟩) ?_
  refine s_if_eq ok rfl zif01 (fun c6 => ?_) (fun c6 => ?_)
  · refine s_ci ok rfl ?_
    refine s_retI ok rfl ⟨congrArg (fun z => some (Value.int (iI z))) (if_neg (fun q => zif_f c6 q)).symm, _, rfl, dE.rf hd⟩
  · refine s_ldA0 ok rfl ?_
    refine s_ldI1 ok rfl ?_
    refine s_callV ok rfl rfl rfl rfl rfl rfl (ct_wrongTickets hd.1 hk zx) ?_
    refine s_stI3 ok rfl rfl ?_
    refine s_ldI3 ok rfl ?_
    refine s_if_eq ok rfl ⟨by omega, by omega⟩ (fun c18 => ?_) (fun c18 => ?_)
    · refine s_ci ok rfl ?_
      refine s_stI4 ok rfl rfl ?_
      refine s_ci ok rfl ?_
      refine s_stI5 ok rfl rfl ?_
      refine s_ci ok rfl ?_
      refine s_stI6 ok rfl rfl ?_
      have yw := zif_t c6
      obtain ⟨⟨x0, x1⟩, s6⟩ := wt1 c18
      exact lp_tickets (E := E) (d := d) (k := k) (r := r) (l := l) (n := n) (h := h) rfl rfl rfl hd h2 hk x0 x1 s6 zw (Q := zVx (.int (iI (if 0 ≤ what ∧ what ≤ 1 then (if (if ¬ sWR h x (-1) = 0 then sWR h x (-1) else if h 60 6 < h 84 x then -13 else 0) = 0 then (if what = 0 then (sTks (dTk h (h 60) (h 59 17) (h 59 18) x) (h 84 x) 31).1 else (sTks (dTk h (h 60) (h 59 17) (h 59 18) x) (h 84 x) 31).2) else (if ¬ sWR h x (-1) = 0 then sWR h x (-1) else if h 60 6 < h 84 x then -13 else 0)) else -1))) (zG k r l n (dE h))) (fun g hE => ⟨congrArg (fun z => some (Value.int (iI z))) ((if_pos yw).trans (if_pos c18)).symm, g, rfl, hE⟩) 32 0 h _ rfl (dE.rf hd) (by omega) (by omega)
    · refine s_ldI3 ok rfl ?_
      refine s_retI ok rfl ⟨congrArg (fun z => some (Value.int (iI z))) ((if_pos (zif_t c6)).trans (if_neg c18)).symm, _, rfl, dE.rf hd⟩
theorem ct_forged {E : zE} {d : Nat} {k : Nat → Nat × Nat} {h : Nat → Int → Int} {r : Nat → Int → Option Nat} {l : Nat → Nat → Int64} {n : Nat} {p : Int → Int} {w dd : Int} (ep : h 60 = p) (ew : h 59 17 = w) (ed : h 59 18 = dd) (hd : dP h) (h2 : zb dd) (hk : dKp h) {x : Int} (zx : zb x) : zCT E (d + 8) M_X12_forged [.ref 59, .int (iI (x))] (zJ (k, h, r, l, n)) 0 0 (zVx (.int (iI (if (if ¬ sWR h x (-1) = 0 then sWR h x (-1) else if p 6 < h 84 x then -13 else 0) = 0 then (if sFg (dTk h p w dd x) 31 = h 84 x then -4 else sFg (dTk h p w dd x) 31) else (if ¬ sWR h x (-1) = 0 then sWR h x (-1) else if p 6 < h 84 x then -13 else 0)))) (zG k r l n (dE h))) := by
  have ok := ok_X12_forged
  refine zCT_of pn_X12_forged (Nat.le_of_ble_eq_true rfl) ?_
  show zGo _ _ _ _ _ _ 0 ([some (.ref 59), some (.int (iI (x))), none, none, none], [], _, _, _)
  subst ep
  subst ew
  subst ed
  obtain ⟨wt0, wt1⟩ := sWT_in (h := h) (x := x)
  refine s_ldA0 ok rfl ?_
  refine s_ldI1 ok rfl ?_
  refine s_callV ok rfl rfl rfl rfl rfl rfl (ct_wrongTickets hd.1 hk zx) ?_
  refine s_stI2 ok rfl rfl ?_
  refine s_ldI2 ok rfl ?_
  refine s_if_eq ok rfl ⟨by omega, by omega⟩ (fun c7 => ?_) (fun c7 => ?_)
  · refine s_ci ok rfl ?_
    refine s_stI3 ok rfl rfl ?_
    refine s_ci ok rfl ?_
    refine s_stI4 ok rfl rfl ?_
    obtain ⟨⟨x0, x1⟩, s6⟩ := wt1 c7
    exact lp_forged (E := E) (d := d) (k := k) (r := r) (l := l) (n := n) (h := h) rfl rfl rfl hd h2 hk x0 x1 s6 (Q := zVx (.int (iI (if (if ¬ sWR h x (-1) = 0 then sWR h x (-1) else if h 60 6 < h 84 x then -13 else 0) = 0 then (if sFg (dTk h (h 60) (h 59 17) (h 59 18) x) 31 = h 84 x then -4 else sFg (dTk h (h 60) (h 59 17) (h 59 18) x) 31) else (if ¬ sWR h x (-1) = 0 then sWR h x (-1) else if h 60 6 < h 84 x then -13 else 0)))) (zG k r l n (dE h))) (fun g hE => ⟨congrArg (fun z => some (Value.int (iI z))) (if_pos c7).symm, g, rfl, hE⟩) 32 0 h _ rfl (dE.rf hd) (by omega) (by omega)
  · refine s_ldI2 ok rfl ?_
    refine s_retI ok rfl ⟨congrArg (fun z => some (Value.int (iI z))) (if_neg c7).symm, _, rfl, dE.rf hd⟩
