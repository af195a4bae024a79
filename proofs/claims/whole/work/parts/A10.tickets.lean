/-! the class: tickets, forged -/
theorem rw_fr {k : Nat → Nat × Nat} {h g : Nat → Int → Int} {r r9 : Nat → Int → Option Nat} {w ar L : Nat} {so : Int} (c : rw_ k h r w ar L so) (e : g w = h w) (e2 : r9 w = r w) : rw_ k g r9 w ar L so := by
  obtain ⟨y1, y2, y3, y4, y5⟩ := c
  refine ⟨y1, by rw [e]; exact y2, ?_, y4, y5⟩
  have : zrF r9 w 1 = zrF r w 1 := by
    unfold zrF
    rw [e2]
  exact this.trans y3
theorem tc_in {E : Int → Int} {L : Nat} {j : Int} (j0 : 0 ≤ j) (j1 : j < L) : tc E L j = E j := if_pos ⟨j0, j1⟩
theorem sFst_hit {W : Int → Bool} {m c : Nat} (e : sFst W m = m) (hw : W m = true) (mc : m < c) : sFst W c = m := by
  have e1 : sFst W (m + 1) = (m : Int) := by rw [sFst_s, e, if_neg (by omega), if_pos hw]
  have e9 := sFst_fix (W := W) (c := m + 1) (by rw [e1]; omega) (c - (m + 1))
  rw [show m + 1 + (c - (m + 1)) = c by omega, e1] at e9
  exact e9
theorem sFst_no {W : Int → Bool} {m : Nat} (e : sFst W m = m) (hw : ¬ W m = true) : sFst W (m + 1) = ((m + 1 : Nat) : Int) := by
  rw [sFst_s, e, if_neg (by omega), if_neg hw]
  omega
theorem lp_misfit {E : zE} {d : Nat} {k : Nat → Nat × Nat} {h : Nat → Int → Int} {r : Nat → Int → Option Nat} {l : Nat → Nat → Int64} {n : Nat} {F : (Nat → Int → Int) → Prop} {p : Int → Int} {x : Int} {w : Nat} (hw : rw_ k h r w (w + 1) (h 84 x).toNat (h 83 x)) (w0 : 87 ≤ w) (s0 : 0 ≤ h 84 x) (hz : ∀ j, zb (h (w + 1) j)) (he : ∀ j, 0 ≤ j → j < h 84 x → h (w + 1) j = h 85 (100 * x + j)) (s1 : h 84 x ≤ p 6) {v : Int} {g : Nat → Int → Int} (ehi : ∀ q : Nat, 54 < q → g q = h q) (p68 : p 6 ≤ 8) (ht : ∀ m : Int, 0 ≤ m → m < p 6 → g 44 m = if dN (zp p 2 v) (-4) 3 69 m < 0 then -1 else dN (zp p 2 v) (-4) 3 69 m) (zt : ∀ m : Int, 0 ≤ m → m < p 6 → zb (g 44 m)) (hF : F g) : ∀ c : Nat, ∀ m : Nat, sFst (sTw h (dN (zp p 2 v) (-4) 3 69) x) m = m → (h 84 x).toNat < m + c → m ≤ (h 84 x).toNat → zGo E (d + 9) M_X11_firstMisfit 0 0 (zVx (.int (iI (sFst (sTw h (dN (zp p 2 v) (-4) 3 69) x) (h 84 x).toNat))) (zG k r l n F)) 24 ([some (.ref 3), some (.ref w), some (.int (iI (v))), some (.int (iI ((m : Int))))], [], zJ (k, g, r, l, n), 0, 0) := by
  have ok := ok_X11_firstMisfit
  have hw9 : rw_ k g r w (w + 1) (h 84 x).toNat (h 83 x) := rw_fr hw (ehi w (by omega)) rfl
  have hz9 : ∀ j, zb (g (w + 1) j) := fun j => by rw [ehi (w + 1) (by omega)]; exact hz j
  intro c
  induction c with
  | zero =>
    intros
    omega
  | succ c ih =>
    intro m hm g1 g2
    have eL : ((h 84 x).toNat : Int) = h 84 x := by omega
    refine s_ldI3 ok rfl ?_
    refine s_ldA1 ok rfl ?_
    refine s_callV ok rfl rfl rfl rfl hw9.1 rfl (ct_rsize hw9) ?_
    refine s_c_ge ok rfl ⟨by omega, by omega⟩ ⟨by omega, by omega⟩ (fun c29 => ?_) (fun c29 => ?_)
    · refine s_ldA1 ok rfl ?_
      refine s_callV ok rfl rfl rfl rfl hw9.1 rfl (ct_rsize hw9) ?_
      have em : m = (h 84 x).toNat := by omega
      refine s_retI ok rfl ⟨congrArg (fun z => some (Value.int (iI z))) ?_, g, rfl, hF⟩
      rw [← em, hm]
    · have ce : tc (g (w + 1)) (h 84 x).toNat (m : Int) = h 85 (100 * x + (m : Int)) := by
        rw [tc_in (by omega) (by omega), ehi (w + 1) (by omega)]
        exact he (m : Int) (by omega) (by omega)
      have cm : (m : Int) < p 6 := by omega
      have tm := ht (m : Int) (by omega) cm
      refine s_ldA1 ok rfl ?_
      refine s_ldI3 ok rfl ?_
      refine s_callV ok rfl rfl rfl rfl hw9.1 rfl (ct_risSkipped hw9 ⟨by omega, by omega⟩ hz9) ?_
      refine s_if_eq ok rfl zif01 (fun c37 => ?_) (fun c37 => ?_)
      · refine s_ldA1 ok rfl ?_
        refine s_ldI3 ok rfl ?_
        refine s_callV ok rfl rfl rfl rfl hw9.1 rfl (ct_rat hw9 ⟨by omega, by omega⟩) ?_
        refine s_ldA0 ok rfl ?_
        refine s_getF ok rfl rfl rfl rfl ?_
        refine s_getF ok rfl rfl rfl rfl ?_
        refine s_ldI3 ok rfl ?_
        refine s_iald ok rfl (by exact rfl) (by exact rfl) (by omega) (by omega) ?_
        refine s_c_eq ok rfl (by rw [ce]; rw [← he (m : Int) (by omega) (by omega)]; exact hz _) (zt (m : Int) (by omega) cm) (fun c54 => ?_) (fun c54 => ?_)
        · refine s_inc3 ok rfl rfl ?_
          refine s_goto ok rfl ?_
          refine ih (m + 1) (sFst_no hm fun q => ?_) (by omega) (by omega)
          have q := of_decide_eq_true q
          first
            | exact q.1 (by rw [← ce]; exact zif_t c37)
            | (refine q.2 ?_
               rw [← ce, ← tm]
               exact c54)
        · refine s_ldI3 ok rfl ?_
          have hw5 : (sTw h (dN (zp p 2 v) (-4) 3 69) x) (m : Int) = true := decide_eq_true ⟨fun q => zif_f c37 (by rw [ce]; exact q), fun q => c54 (by rw [ce, tm]; exact q)⟩
          exact s_retI ok rfl ⟨congrArg (fun z => some (Value.int (iI z))) (sFst_hit hm hw5 (by omega)).symm, g, rfl, hF⟩
      · refine s_inc3 ok rfl rfl ?_
        refine s_goto ok rfl ?_
        refine ih (m + 1) (sFst_no hm fun q => ?_) (by omega) (by omega)
        have q := of_decide_eq_true q
        first
          | exact q.1 (by rw [← ce]; exact zif_t c37)
          | (refine q.2 ?_
             rw [← ce, ← tm]
             exact c54)
theorem ct_misfit {E : zE} {d : Nat} {k : Nat → Nat × Nat} {h : Nat → Int → Int} {r : Nat → Int → Option Nat} {l : Nat → Nat → Int64} {n : Nat} {p : Int → Int} (hp : pOK p) (hft : ∀ u : Int, 0 ≤ u → u < p 6 → pFr p u < pTo p u) (hR : cR 15 16 17 18 19 20 21 22 23 24 k h r n p (-4)) {x : Int} {w : Nat} (hw : rw_ k h r w (w + 1) (h 84 x).toNat (h 83 x)) (w0 : 87 ≤ w) (s0 : 0 ≤ h 84 x) (hz : ∀ j, zb (h (w + 1) j)) (he : ∀ j, 0 ≤ j → j < h 84 x → h (w + 1) j = h 85 (100 * x + j)) (s1 : h 84 x ≤ p 6) {v : Int} (v0 : 0 ≤ v) (v1 : v ≤ 30) : zCT E (d + 9) M_X11_firstMisfit [.ref 3, .ref w, .int (iI (v))] (zJ (k, h, r, l, n)) 0 0 (zVx (.int (iI (dTk h p (-4) 3 x v))) (zG k r l n (fun g => cT h g ∧ cR 15 16 17 18 19 20 21 22 23 24 k g r n (zp p 2 v) (-4)))) := by
  have ok := ok_X11_firstMisfit
  refine zCT_of pn_X11_firstMisfit (Nat.le_of_ble_eq_true rfl) ?_
  show zGo _ _ _ _ _ _ 0 ([some (.ref 3), some (.ref w), some (.int (iI (v))), none], [], _, _, _)
  have p60 := hp.2.2.2.2.2.2.2.2.2.2.2.2.1
  have p68 := hp.2.2.2.2.2.2.2.2.2.2.2.2.2.1
  have p00 := hp.1
  have p04 := hp.2.1
  have hp9 : pOK (zp p 2 v) := pOK_put hp (by omega)
  have e69 : (zp p 2 v) 6 = p 6 := zp_ne (by omega)
  have hft9 : ∀ u : Int, 0 ≤ u → u < (zp p 2 v) 6 → pFr (zp p 2 v) u < pTo (zp p 2 v) u := fun u u0 u1 => by
    rw [show pFr (zp p 2 v) u = pFr p u from zp_ne (by omega), show pTo (zp p 2 v) u = pTo p u from zp_ne (by omega)]
    exact hft u u0 (by omega)
  have hf9 : ∀ u : Int, 0 ≤ u → u < (zp p 2 v) 6 → ¬ pFr (zp p 2 v) u = 4 := fun u u0 u1 => by have := pOf_gt hp9 u0 (by omega) (hft9 u u0 u1); omega
  have eL : ((h 84 x).toNat : Int) = h 84 x := by omega
  have hR9 := cR15_rule hR (x := 0) (v := v) (by omega) (by omega)
  refine s_ldA0 ok rfl ?_
  refine s_getF ok rfl rfl rfl rfl ?_
  refine s_getF ok rfl rfl rfl rfl ?_
  refine s_ci ok rfl ?_
  refine s_ldI2 ok rfl ?_
  refine s_iast ok rfl (by exact rfl) (by exact rfl) (by omega) (by omega) (fun q => by cases q) ?_
  refine s_ldA0 ok rfl ?_
  refine s_getF ok rfl rfl rfl rfl ?_
  refine s_ldA0 ok rfl ?_
  refine s_getF ok rfl rfl rfl rfl ?_
  refine s_ci ok rfl ?_
  refine s_callVvx ok rfl rfl rfl rfl rfl rfl (ct_go15 (d := d) (p := (zp p 2 v)) (w := -4) (dd := 3) hp9 (Or.inr rfl) (Or.inl rfl) hf9 hR9) (fun σ19 hσ19 => ?_)
  obtain ⟨g19, rfl, hg19⟩ := hσ19
  obtain ⟨gf19, -, gC19, gT19, gS19⟩ := hg19
  have D19 := tD_of hp9 (Or.inl rfl) hft9 gT19 gS19
  have e3719 : g19 37 6 = (zp p 2 v) 6 := gC19.1.trans cnP_4
  have hz19 : ∀ s : Int, 0 ≤ s → s < (zp p 2 v) 6 → zb (g19 44 s) := fun s s0 s1 => by
    rw [(tD_one D19 s0 s1).1]
    split
    · exact ⟨by omega, by omega⟩
    · exact (dN_ok (dd := 3) hp9 (w := -4) ⟨by omega, by omega⟩).2.1 s
  have eA19 : zsum (tO g19) ((zp p 2 v) 6).toNat = dMn (zp p 2 v) (-4) 3 := by
    unfold dMn
    refine zsum_cg _ fun s s0 s1 => ?_
    have := (tD_a D19 (t := s) s0 (by rw [cnP_4]; omega)).2.1
    rw [sg_4] at this
    exact this
  refine s_ci ok rfl ?_
  refine s_stI3 ok rfl rfl ?_
  exact lp_misfit (E := E) (d := d) (k := k) (h := h) (r := r) (l := l) (n := n) (p := p) (v := v) hw w0 s0 hz he s1 (g := g19) (fun q hq => (gf19 q (by omega)).trans (zv_other (by omega))) p68 (fun m m0 m1 => (tD_one D19 m0 (by omega)).1) (fun m m0 m1 => hz19 m m0 (by omega)) ⟨fun q hq => (gf19 q (by omega)).trans (zv_other (by omega)), cR15_trip hR9 gf19⟩ ((h 84 x).toNat + 1) 0 rfl (by omega) (by omega)
theorem ct_rTickets {E : zE} {d : Nat} {k : Nat → Nat × Nat} {h : Nat → Int → Int} {r : Nat → Int → Option Nat} {l : Nat → Nat → Int64} {n : Nat} {p : Int → Int} (hs : pS p) (hR : cR 4 5 6 7 8 9 10 11 12 13 k h r n p (-4)) (hc : cSh k h r n) {x : Int} (zx : zb x) : zCT E (d + 2) M_X11_refusalOfTickets [.ref 3, .int (iI (x))] (zJ (k, h, r, l, n)) 0 0 (zV (.int (iI (if ¬ sWR h x (-1) = 0 then sWR h x (-1) else if p 6 < h 84 x then -13 else 0))) (zJ (k, h, r, l, n))) := by
  have ok := ok_X11_refusalOfTickets
  refine zCT_of pn_X11_refusalOfTickets (Nat.le_of_ble_eq_true rfl) ?_
  show zGo _ _ _ _ _ _ 0 ([some (.ref 3), some (.int (iI (x))), none], [], _, _, _)
  have hp := hs.1
  have hft := hs.2.2.2.1
  have p60 := hp.2.2.2.2.2.2.2.2.2.2.2.2.1
  have p68 := hp.2.2.2.2.2.2.2.2.2.2.2.2.2.1
  have p00 := hp.1
  have p04 := hp.2.1
  have hf : ∀ q : Int, 0 ≤ q → q < p 6 → ¬ pFr p q = 4 := fun q q0 q1 => by have := pOf_gt hp q0 (by omega) (hft q q0 q1); omega
  refine s_ldA0 ok rfl ?_
  refine s_ldI1 ok rfl ?_
  refine s_callV ok rfl rfl rfl rfl rfl rfl (ct_rRow hc zx) ?_
  refine s_stI2 ok rfl rfl ?_
  refine s_ldI2 ok rfl ?_
  refine s_if_eq ok rfl sWR_z (fun c7 => ?_) (fun c7 => ?_)
  · obtain ⟨⟨t0, t1⟩, h80, r5, w, r6, hw, ⟨w0, w1⟩, ⟨s0, s1⟩, hz, he, hrg⟩ := cSh_w hc c7
    have eL : ((h 84 x).toNat : Int) = h 84 x := by omega
    refine s_ldA0 ok rfl ?_
    refine s_getF ok rfl rfl rfl rfl ?_
    refine s_ldI1 ok rfl ?_
    refine s_aald ok rfl (by exact rfl) (by exact rfl) (by exact rfl) (by omega) (by omega) r6 ?_
    refine s_callV ok rfl rfl rfl rfl hw.1 rfl (ct_rsize hw) ?_
    refine s_ldA0 ok rfl ?_
    refine s_getF ok rfl rfl rfl rfl ?_
    refine s_getJ 0 ok rfl rfl rfl rfl ?_
    rw [cR4_n hR]
    refine s_c_le ok rfl ⟨by omega, by omega⟩ ⟨by omega, by omega⟩ (fun c28 => ?_) (fun c28 => ?_)
    · refine s_ci ok rfl ?_
      refine s_retI ok rfl ⟨congrArg (fun z => some (Value.int (iI z))) (by rw [if_neg (fun q => q c7)]; first | exact (if_pos (by omega)).symm | exact (if_neg (by omega)).symm), rfl⟩
    · refine s_ci ok rfl ?_
      refine s_goto ok rfl ?_
      refine s_retI ok rfl ⟨congrArg (fun z => some (Value.int (iI z))) (by rw [if_neg (fun q => q c7)]; first | exact (if_pos (by omega)).symm | exact (if_neg (by omega)).symm), rfl⟩
  · refine s_ldI2 ok rfl ?_
    refine s_retI ok rfl ⟨congrArg (fun z => some (Value.int (iI z))) (if_pos c7).symm, rfl⟩
theorem sTw_T {h : Nat → Int → Int} {p : Int → Int} {x u v : Int} : dTk h (zp p 2 u) (-4) 3 x v = dTk h p (-4) 3 x v := by
  unfold dTk
  rw [zp_zp]
theorem dTk_cg {h g : Nat → Int → Int} {p : Int → Int} {x v : Int} (e3 : g 83 = h 83) (e4 : g 84 = h 84) (e5 : g 85 = h 85) : dTk g p (-4) 3 x v = dTk h p (-4) 3 x v := by
  unfold dTk sTw
  rw [e3, e4, e5]
theorem dTk_in {h : Nat → Int → Int} {p : Int → Int} {x v : Int} (s0 : 0 ≤ h 84 x) : 0 ≤ dTk h p (-4) 3 x v ∧ dTk h p (-4) 3 x v ≤ h 84 x := by
  have := sFst_in (W := sTw h (dN (zp p 2 v) (-4) 3 69) x) (h 84 x).toNat
  unfold dTk
  omega
theorem lp_tickets11 {E : zE} {d : Nat} {k : Nat → Nat × Nat} {h : Nat → Int → Int} {r : Nat → Int → Option Nat} {l : Nat → Nat → Int64} {n : Nat} {p : Int → Int} (hs : pS p) (hR : cR 4 5 6 7 8 9 10 11 12 13 k h r n p (-4)) {x : Int} {w : Nat} (hw : rw_ k h r w (w + 1) (h 84 x).toNat (h 83 x)) (w0 : 87 ≤ w) (s0 : 0 ≤ h 84 x) (hz : ∀ j, zb (h (w + 1) j)) (he : ∀ j, 0 ≤ j → j < h 84 x → h (w + 1) j = h 85 (100 * x + j)) (s1 : h 84 x ≤ p 6) {what : Int} (zw : zb what) : ∀ c : Nat, ∀ (m : Nat) (g : Nat → Int → Int) (r9 : Nat → Int → Option Nat) (y : Int) (u : Option Value), znl u = true → (0 ≤ y ∧ y ≤ 30) → cT h g ∧ cR 15 16 17 18 19 20 21 22 23 24 k g r9 n (zp p 2 y) (-4) ∧ (∀ q, ¬ q = 16 → r9 q = r q) → 31 < m + c → m ≤ 31 → zGo E (d + 10) M_X11_tickets 0 0 (zVx (.int (iI (if what = 0 then (sTks (dTk h p (-4) 3 x) (h 84 x) 31).1 else (sTks (dTk h p (-4) 3 x) (h 84 x) 31).2))) (fun s => ∃ g r9, s = zJ (k, g, r9, l, n) ∧ cT h g ∧ (∀ q, ¬ q = 16 → r9 q = r q))) 53 ([some (.ref 3), some (.int (iI (x))), some (.int (iI (what))), u, some (.ref w), some (.int (iI ((sTks (dTk h p (-4) 3 x) (h 84 x) m).1))), some (.int (iI ((sTks (dTk h p (-4) 3 x) (h 84 x) m).2))), some (.int (iI (30 - (m : Int))))], [], zJ (k, g, r9, l, n), 0, 0) := by
  have ok := ok_X11_tickets
  intro c
  induction c with
  | zero =>
    intros
    omega
  | succ c ih =>
    intro m g r9 y u hu9 ⟨y0, y1⟩ ⟨i1, i2, i3⟩ g1 g2
    have eL : ((h 84 x).toNat : Int) = h 84 x := by omega
    have hp := hs.1
    have hft := hs.2.2.2.1
    have p60 := hp.2.2.2.2.2.2.2.2.2.2.2.2.1
    have p68 := hp.2.2.2.2.2.2.2.2.2.2.2.2.2.1
    have p00 := hp.1
    have p04 := hp.2.1
    have hf : ∀ q : Int, 0 ≤ q → q < p 6 → ¬ pFr p q = 4 := fun q q0 q1 => by have := pOf_gt hp q0 (by omega) (hft q q0 q1); omega
    refine s_ldI7 ok rfl ?_
    refine s_if_lt ok rfl ⟨by omega, by omega⟩ (fun c55 => ?_) (fun c55 => ?_)
    · refine s_ldI2 ok rfl ?_
      refine s_if_eq ok rfl zw (fun c88 => ?_) (fun c88 => ?_)
      · refine s_ldI5 ok rfl ?_
        refine s_goto ok rfl ?_
        have em : m = 31 := by omega
        subst em
        first
          | exact s_retI ok rfl ⟨congrArg (fun z => some (Value.int (iI z))) (if_pos c88).symm, g, r9, rfl, i1, i3⟩
          | exact s_retI ok rfl ⟨congrArg (fun z => some (Value.int (iI z))) (if_neg c88).symm, g, r9, rfl, i1, i3⟩
      · refine s_ldI6 ok rfl ?_
        have em : m = 31 := by omega
        subst em
        first
          | exact s_retI ok rfl ⟨congrArg (fun z => some (Value.int (iI z))) (if_pos c88).symm, g, r9, rfl, i1, i3⟩
          | exact s_retI ok rfl ⟨congrArg (fun z => some (Value.int (iI z))) (if_neg c88).symm, g, r9, rfl, i1, i3⟩
    · have hz9 : ∀ j, zb (g (w + 1) j) := fun j => by rw [i1 (w + 1) (by omega)]; exact hz j
      have hw9 : rw_ k g r9 w (w + 1) (g 84 x).toNat (g 83 x) := by
        rw [i1 84 (by omega), i1 83 (by omega)]
        exact rw_fr hw (i1 w (by omega)) (i3 w (by omega))
      have e84 : g 84 x = h 84 x := congrFun (i1 84 (by omega)) x
      have mf := ct_misfit (E := E) (d := d) (k := k) (h := g) (r := r9) (l := l) (n := n) (p := zp p 2 y) (pOK_put hp (by omega)) (fun u u0 u1 => by
        rw [show pFr (zp p 2 y) u = pFr p u from zp_ne (by omega), show pTo (zp p 2 y) u = pTo p u from zp_ne (by omega)]
        exact hft u u0 (by rw [show zp p 2 y 6 = p 6 from zp_ne (by omega)] at u1; exact u1)) i2 hw9 w0 (by omega) hz9 (fun j j0 j1 => by
        rw [i1 (w + 1) (by omega), i1 85 (by omega)]
        exact he j j0 (by omega)) (by rw [show zp p 2 y 6 = p 6 from zp_ne (by omega)]; omega) (v := (30 - (m : Int))) (by omega) (by omega)
      rw [sTw_T, dTk_cg (i1 83 (by omega)) (i1 84 (by omega)) (i1 85 (by omega)), zp_zp] at mf
      have ti := dTk_in (h := h) (p := p) (x := x) (v := (30 - (m : Int))) s0
      refine s_ldA0 ok rfl ?_
      refine s_ldA4 ok rfl ?_
      refine s_ldI7 ok rfl ?_
      refine s_callVx ok rfl rfl rfl rfl rfl rfl mf (fun σ63 hσ63 => ?_)
      obtain ⟨g63, rfl, hg63⟩ := hσ63
      refine s_ldA4 ok rfl ?_
      refine s_callV ok rfl rfl rfl rfl hw.1 rfl (ct_rsize (rw_fr hw (hg63.1 w (by omega) |>.trans (i1 w (by omega))) (i3 w (by omega)))) ?_
      refine s_c_eq ok rfl ⟨by omega, by omega⟩ ⟨by omega, by omega⟩ (fun c71 => ?_) (fun c71 => ?_)
      · refine s_inc5 ok rfl rfl ?_
        refine s_ldI7 ok rfl ?_
        refine s_stI6 ok rfl rfl ?_
        refine s_inc7 ok rfl rfl ?_
        refine s_goto ok rfl ?_
        have es : sTks (dTk h p (-4) 3 x) (h 84 x) (m + 1) = if (dTk h p (-4) 3 x) (30 - (m : Int)) < h 84 x then sTks (dTk h p (-4) 3 x) (h 84 x) m else ((sTks (dTk h p (-4) 3 x) (h 84 x) m).1 + 1, 30 - (m : Int)) := rfl
        have nx := ih (m + 1) g63 r9 (30 - (m : Int)) u hu9 ⟨by omega, by omega⟩ ⟨fun q hq => (hg63.1 q hq).trans (i1 q hq), hg63.2, i3⟩ (by omega) (by omega)
        rw [show 30 - ((m + 1 : Nat) : Int) = 30 - (m : Int) + -1 by omega] at nx
        first
          | (rw [if_neg (by omega)] at es
             rw [es] at nx
             exact nx)
          | (rw [if_pos (by omega)] at es
             rw [es] at nx
             exact nx)
      · refine s_inc7 ok rfl rfl ?_
        refine s_goto ok rfl ?_
        have es : sTks (dTk h p (-4) 3 x) (h 84 x) (m + 1) = if (dTk h p (-4) 3 x) (30 - (m : Int)) < h 84 x then sTks (dTk h p (-4) 3 x) (h 84 x) m else ((sTks (dTk h p (-4) 3 x) (h 84 x) m).1 + 1, 30 - (m : Int)) := rfl
        have nx := ih (m + 1) g63 r9 (30 - (m : Int)) u hu9 ⟨by omega, by omega⟩ ⟨fun q hq => (hg63.1 q hq).trans (i1 q hq), hg63.2, i3⟩ (by omega) (by omega)
        rw [show 30 - ((m + 1 : Nat) : Int) = 30 - (m : Int) + -1 by omega] at nx
        first
          | (rw [if_neg (by omega)] at es
             rw [es] at nx
             exact nx)
          | (rw [if_pos (by omega)] at es
             rw [es] at nx
             exact nx)
theorem rT_z {h : Nat → Int → Int} {p : Int → Int} {x : Int} : zb (if ¬ sWR h x (-1) = 0 then sWR h x (-1) else if p 6 < h 84 x then -13 else 0) := by
  split
  · exact sWR_z
  · split <;> exact ⟨by omega, by omega⟩
theorem ct_tickets11 {E : zE} {d : Nat} {k : Nat → Nat × Nat} {h : Nat → Int → Int} {r : Nat → Int → Option Nat} {l : Nat → Nat → Int64} {n : Nat} {p : Int → Int} (hs : pS p) (hR : cR 4 5 6 7 8 9 10 11 12 13 k h r n p (-4)) (hc : cSh k h r n) {x what : Int} (zx : zb x) (zw : zb what) : zCT E (d + 10) M_X11_tickets [.ref 3, .int (iI (x)), .int (iI (what))] (zJ (k, h, r, l, n)) 0 0 (zVx (.int (iI (if 0 ≤ what ∧ what ≤ 1 then (if (if ¬ sWR h x (-1) = 0 then sWR h x (-1) else if p 6 < h 84 x then -13 else 0) = 0 then (if what = 0 then (sTks (dTk h p (-4) 3 x) (h 84 x) 31).1 else (sTks (dTk h p (-4) 3 x) (h 84 x) 31).2) else (if ¬ sWR h x (-1) = 0 then sWR h x (-1) else if p 6 < h 84 x then -13 else 0)) else -1))) (fun s => ∃ g r9, s = zJ (k, g, r9, l, n) ∧ cT h g ∧ (∀ q, ¬ q = 16 → r9 q = r q))) := by
  have ok := ok_X11_tickets
  refine zCT_of pn_X11_tickets (Nat.le_of_ble_eq_true rfl) ?_
  show zGo _ _ _ _ _ _ 0 ([some (.ref 3), some (.int (iI (x))), some (.int (iI (what))), none, none, none, none, none], [], _, _, _)
  have hp := hs.1
  have hft := hs.2.2.2.1
  have p60 := hp.2.2.2.2.2.2.2.2.2.2.2.2.1
  have p68 := hp.2.2.2.2.2.2.2.2.2.2.2.2.2.1
  have p00 := hp.1
  have p04 := hp.2.1
  have hf : ∀ q : Int, 0 ≤ q → q < p 6 → ¬ pFr p q = 4 := fun q q0 q1 => by have := pOf_gt hp q0 (by omega) (hft q q0 q1); omega
  refine s_ldI2 ok rfl ?_
  refine s_if_lt ok rfl zw (fun c1 => ?_) (fun c1 => ?_)
  · refine s_ci ok rfl ?_
    exact s_retI ok rfl ⟨congrArg (fun z => some (Value.int (iI z))) (if_neg (by omega)).symm, h, r, rfl, fun _ _ => rfl, fun _ _ => rfl⟩
  · refine s_ldI2 ok rfl ?_
    refine s_ci ok rfl ?_
    refine s_c_le ok rfl zw ⟨by omega, by omega⟩ (fun c6 => ?_) (fun c6 => ?_)
    · refine s_ldA0 ok rfl ?_
      refine s_ldI1 ok rfl ?_
      refine s_callV ok rfl rfl rfl rfl rfl rfl (ct_rTickets hs hR hc zx) ?_
      refine s_stI3 ok rfl rfl ?_
      refine s_ldI3 ok rfl ?_
      refine s_if_eq ok rfl rT_z (fun c18 => ?_) (fun c18 => ?_)
      · have c0 := c18
        have cR0 : sWR h x (-1) = 0 := by
          by_cases q : sWR h x (-1) = 0
          · exact q
          · rw [if_pos q] at c18
            exact absurd c18 q
        have hsz : h 84 x ≤ p 6 := by
          rw [if_neg (fun q => q cR0)] at c18
          by_cases q : p 6 < h 84 x
          · rw [if_pos q] at c18
            omega
          · omega
        obtain ⟨⟨t0, t1⟩, h80, r5, w, r6, hw, ⟨w0, w1⟩, ⟨s0, s1⟩, hz, he, hrg⟩ := cSh_w hc cR0
        refine s_ldA0 ok rfl ?_
        refine s_getF ok rfl rfl rfl rfl ?_
        refine s_ldI1 ok rfl ?_
        refine s_aald ok rfl (by exact rfl) (by exact rfl) (by exact rfl) (by omega) (by omega) r6 ?_
        refine s_stA4 ok rfl rfl ?_
        refine s_ldA0 ok rfl ?_
        refine s_getF ok rfl rfl rfl rfl ?_
        refine s_ldA0 ok rfl ?_
        refine s_getF ok rfl rfl rfl rfl ?_
        refine s_callVvx ok rfl rfl rfl rfl rfl rfl (ct_become15_4 (d := d + 8) hR (by rw [cnP_4]; omega) p04) (fun σ39 hσ39 => ?_)
        obtain ⟨g39, r39, rfl, f39, i3, hQ⟩ := hσ39
        refine s_ci ok rfl ?_
        refine s_stI5 ok rfl rfl ?_
        refine s_ci ok rfl ?_
        refine s_stI6 ok rfl rfl ?_
        refine s_ci ok rfl ?_
        refine s_stI7 ok rfl rfl ?_
        have yw : 0 ≤ what ∧ what ≤ 1 := by omega
        rw [if_pos yw, if_pos c0]
        exact lp_tickets11 (E := E) (d := d) (k := k) (h := h) (r := r) (l := l) (n := n) hs hR hw w0 s0 hz he hsz zw 32 0 g39 r39 (p 2) _ rfl ⟨hp.2.2.2.2.1, hp.2.2.2.2.2.1⟩ ⟨fun q hq => f39 q (by omega), by rw [zp_id]; exact hQ, i3⟩ (by omega) (by omega)
      · refine s_ldI3 ok rfl ?_
        exact s_retI ok rfl ⟨congrArg (fun z => some (Value.int (iI z))) (by rw [if_pos (show 0 ≤ what ∧ what ≤ 1 by omega), if_neg c18]), h, r, rfl, fun _ _ => rfl, fun _ _ => rfl⟩
    · refine s_ci ok rfl ?_
      exact s_retI ok rfl ⟨congrArg (fun z => some (Value.int (iI z))) (if_neg (by omega)).symm, h, r, rfl, fun _ _ => rfl, fun _ _ => rfl⟩
theorem sFg_le {T : Int → Int} {b : Int} (b0 : 0 ≤ b) (hT : ∀ v, T v ≤ b) : ∀ c : Nat, sFg T c ≤ b
  | 0 => b0
  | c + 1 => by
    have i := sFg_le b0 hT c
    have := hT c
    unfold sFg
    omega
theorem lp_forged11 {E : zE} {d : Nat} {k : Nat → Nat × Nat} {h : Nat → Int → Int} {r : Nat → Int → Option Nat} {l : Nat → Nat → Int64} {n : Nat} {p : Int → Int} (hs : pS p) (hR : cR 4 5 6 7 8 9 10 11 12 13 k h r n p (-4)) {x : Int} {w : Nat} (hw : rw_ k h r w (w + 1) (h 84 x).toNat (h 83 x)) (w0 : 87 ≤ w) (s0 : 0 ≤ h 84 x) (hz : ∀ j, zb (h (w + 1) j)) (he : ∀ j, 0 ≤ j → j < h 84 x → h (w + 1) j = h 85 (100 * x + j)) (s1 : h 84 x ≤ p 6) : ∀ c : Nat, ∀ (m : Nat) (g : Nat → Int → Int) (r9 : Nat → Int → Option Nat) (y : Int) (u : Option Value), znl u = true → (0 ≤ y ∧ y ≤ 30) → cT h g ∧ cR 15 16 17 18 19 20 21 22 23 24 k g r9 n (zp p 2 y) (-4) ∧ (∀ q, ¬ q = 16 → r9 q = r q) → 31 < m + c → m ≤ 31 → zGo E (d + 10) M_X11_forged 0 0 (zVx (.int (iI (if sFg (dTk h p (-4) 3 x) 31 = h 84 x then -4 else sFg (dTk h p (-4) 3 x) 31))) (fun s => ∃ g r9, s = zJ (k, g, r9, l, n) ∧ cT h g ∧ (∀ q, ¬ q = 16 → r9 q = r q))) 36 ([some (.ref 3), some (.int (iI (x))), u, some (.ref w), some (.int (iI (sFg (dTk h p (-4) 3 x) m))), some (.int (iI ((m : Int))))], [], zJ (k, g, r9, l, n), 0, 0) := by
  have ok := ok_X11_forged
  intro c
  induction c with
  | zero =>
    intros
    omega
  | succ c ih =>
    intro m g r9 y u hu9 ⟨y0, y1⟩ ⟨i1, i2, i3⟩ g1 g2
    have eL : ((h 84 x).toNat : Int) = h 84 x := by omega
    have hp := hs.1
    have hft := hs.2.2.2.1
    have p60 := hp.2.2.2.2.2.2.2.2.2.2.2.2.1
    have p68 := hp.2.2.2.2.2.2.2.2.2.2.2.2.2.1
    have p00 := hp.1
    have p04 := hp.2.1
    have hf : ∀ q : Int, 0 ≤ q → q < p 6 → ¬ pFr p q = 4 := fun q q0 q1 => by have := pOf_gt hp q0 (by omega) (hft q q0 q1); omega
    have f8 := sFg_in (T := (dTk h p (-4) 3 x)) (fun v => by have := dTk_in (h := h) (p := p) (x := x) (v := v) s0; omega) m
    have f84 := sFg_le (T := (dTk h p (-4) 3 x)) s0 (fun v => (dTk_in s0).2) m
    refine s_ldI5 ok rfl ?_
    refine s_ci ok rfl ?_
    refine s_c_gt ok rfl ⟨by omega, by omega⟩ ⟨by omega, by omega⟩ (fun c40 => ?_) (fun c40 => ?_)
    · refine s_ldI4 ok rfl ?_
      refine s_ldA3 ok rfl ?_
      refine s_callV ok rfl rfl rfl rfl hw.1 rfl (ct_rsize (rw_fr hw (i1 w (by omega)) (i3 w (by omega)))) ?_
      refine s_c_ge ok rfl ⟨by omega, by omega⟩ ⟨by omega, by omega⟩ (fun c69 => ?_) (fun c69 => ?_)
      · refine s_ci ok rfl ?_
        have em : m = 31 := by omega
        subst em
        first
          | exact s_retI ok rfl ⟨congrArg (fun z => some (Value.int (iI z))) (if_neg (by omega)).symm, g, r9, rfl, i1, i3⟩
          | exact s_retI ok rfl ⟨congrArg (fun z => some (Value.int (iI z))) (if_pos (by omega)).symm, g, r9, rfl, i1, i3⟩
      · refine s_ldI4 ok rfl ?_
        refine s_goto ok rfl ?_
        have em : m = 31 := by omega
        subst em
        first
          | exact s_retI ok rfl ⟨congrArg (fun z => some (Value.int (iI z))) (if_neg (by omega)).symm, g, r9, rfl, i1, i3⟩
          | exact s_retI ok rfl ⟨congrArg (fun z => some (Value.int (iI z))) (if_pos (by omega)).symm, g, r9, rfl, i1, i3⟩
    · have hz9 : ∀ j, zb (g (w + 1) j) := fun j => by rw [i1 (w + 1) (by omega)]; exact hz j
      have hw9 : rw_ k g r9 w (w + 1) (g 84 x).toNat (g 83 x) := by
        rw [i1 84 (by omega), i1 83 (by omega)]
        exact rw_fr hw (i1 w (by omega)) (i3 w (by omega))
      have e84 : g 84 x = h 84 x := congrFun (i1 84 (by omega)) x
      have mf := ct_misfit (E := E) (d := d) (k := k) (h := g) (r := r9) (l := l) (n := n) (p := zp p 2 y) (pOK_put hp (by omega)) (fun u u0 u1 => by
        rw [show pFr (zp p 2 y) u = pFr p u from zp_ne (by omega), show pTo (zp p 2 y) u = pTo p u from zp_ne (by omega)]
        exact hft u u0 (by rw [show zp p 2 y 6 = p 6 from zp_ne (by omega)] at u1; exact u1)) i2 hw9 w0 (by omega) hz9 (fun j j0 j1 => by
        rw [i1 (w + 1) (by omega), i1 85 (by omega)]
        exact he j j0 (by omega)) (by rw [show zp p 2 y 6 = p 6 from zp_ne (by omega)]; omega) (v := (m : Int)) (by omega) (by omega)
      rw [sTw_T, dTk_cg (i1 83 (by omega)) (i1 84 (by omega)) (i1 85 (by omega)), zp_zp] at mf
      have ti := dTk_in (h := h) (p := p) (x := x) (v := (m : Int)) s0
      refine s_ldI4 ok rfl ?_
      refine s_ldA0 ok rfl ?_
      refine s_ldA3 ok rfl ?_
      refine s_ldI5 ok rfl ?_
      refine s_callVx ok rfl rfl rfl rfl rfl rfl mf (fun σ49 hσ49 => ?_)
      obtain ⟨g49, rfl, hg49⟩ := hσ49
      refine s_max ok rfl rfl rfl ⟨by omega, by omega⟩ ⟨by omega, by omega⟩ ?_
      rw [show (if sFg (dTk h p (-4) 3 x) m < (dTk h p (-4) 3 x) (m : Int) then (dTk h p (-4) 3 x) (m : Int) else sFg (dTk h p (-4) 3 x) m) = sFg (dTk h p (-4) 3 x) (m + 1) from by show _ = max (sFg (dTk h p (-4) 3 x) m) ((dTk h p (-4) 3 x) (m : Int)); split <;> omega]
      refine s_stI4 ok rfl rfl ?_
      refine s_inc5 ok rfl rfl ?_
      refine s_goto ok rfl ?_
      exact ih (m + 1) g49 r9 (m : Int) u hu9 ⟨by omega, by omega⟩ ⟨fun q hq => (hg49.1 q hq).trans (i1 q hq), hg49.2, i3⟩ (by omega) (by omega)
theorem ct_forged11 {E : zE} {d : Nat} {k : Nat → Nat × Nat} {h : Nat → Int → Int} {r : Nat → Int → Option Nat} {l : Nat → Nat → Int64} {n : Nat} {p : Int → Int} (hs : pS p) (hR : cR 4 5 6 7 8 9 10 11 12 13 k h r n p (-4)) (hc : cSh k h r n) {x : Int} (zx : zb x) : zCT E (d + 10) M_X11_forged [.ref 3, .int (iI (x))] (zJ (k, h, r, l, n)) 0 0 (zVx (.int (iI (if (if ¬ sWR h x (-1) = 0 then sWR h x (-1) else if p 6 < h 84 x then -13 else 0) = 0 then (if sFg (dTk h p (-4) 3 x) 31 = h 84 x then -4 else sFg (dTk h p (-4) 3 x) 31) else (if ¬ sWR h x (-1) = 0 then sWR h x (-1) else if p 6 < h 84 x then -13 else 0)))) (fun s => ∃ g r9, s = zJ (k, g, r9, l, n) ∧ cT h g ∧ (∀ q, ¬ q = 16 → r9 q = r q))) := by
  have ok := ok_X11_forged
  refine zCT_of pn_X11_forged (Nat.le_of_ble_eq_true rfl) ?_
  show zGo _ _ _ _ _ _ 0 ([some (.ref 3), some (.int (iI (x))), none, none, none, none], [], _, _, _)
  have hp := hs.1
  have hft := hs.2.2.2.1
  have p60 := hp.2.2.2.2.2.2.2.2.2.2.2.2.1
  have p68 := hp.2.2.2.2.2.2.2.2.2.2.2.2.2.1
  have p00 := hp.1
  have p04 := hp.2.1
  have hf : ∀ q : Int, 0 ≤ q → q < p 6 → ¬ pFr p q = 4 := fun q q0 q1 => by have := pOf_gt hp q0 (by omega) (hft q q0 q1); omega
  refine s_ldA0 ok rfl ?_
  refine s_ldI1 ok rfl ?_
  refine s_callV ok rfl rfl rfl rfl rfl rfl (ct_rTickets hs hR hc zx) ?_
  refine s_stI2 ok rfl rfl ?_
  refine s_ldI2 ok rfl ?_
  refine s_if_eq ok rfl rT_z (fun c7 => ?_) (fun c7 => ?_)
  · have c0 := c7
    have cR0 : sWR h x (-1) = 0 := by
      by_cases q : sWR h x (-1) = 0
      · exact q
      · rw [if_pos q] at c7
        exact absurd c7 q
    have hsz : h 84 x ≤ p 6 := by
      rw [if_neg (fun q => q cR0)] at c7
      by_cases q : p 6 < h 84 x
      · rw [if_pos q] at c7
        omega
      · omega
    obtain ⟨⟨t0, t1⟩, h80, r5, w, r6, hw, ⟨w0, w1⟩, ⟨s0, s1⟩, hz, he, hrg⟩ := cSh_w hc cR0
    refine s_ldA0 ok rfl ?_
    refine s_getF ok rfl rfl rfl rfl ?_
    refine s_ldI1 ok rfl ?_
    refine s_aald ok rfl (by exact rfl) (by exact rfl) (by exact rfl) (by omega) (by omega) r6 ?_
    refine s_stA3 ok rfl rfl ?_
    refine s_ldA0 ok rfl ?_
    refine s_getF ok rfl rfl rfl rfl ?_
    refine s_ldA0 ok rfl ?_
    refine s_getF ok rfl rfl rfl rfl ?_
    refine s_callVvx ok rfl rfl rfl rfl rfl rfl (ct_become15_4 (d := d + 8) hR (by rw [cnP_4]; omega) p04) (fun σ27 hσ27 => ?_)
    obtain ⟨g27, r27, rfl, f27, i3, hQ⟩ := hσ27
    refine s_ci ok rfl ?_
    refine s_stI4 ok rfl rfl ?_
    refine s_ci ok rfl ?_
    refine s_stI5 ok rfl rfl ?_
    rw [if_pos c0]
    exact lp_forged11 (E := E) (d := d) (k := k) (h := h) (r := r) (l := l) (n := n) hs hR hw w0 s0 hz he hsz 32 0 g27 r27 (p 2) _ rfl ⟨hp.2.2.2.2.1, hp.2.2.2.2.2.1⟩ ⟨fun q hq => f27 q (by omega), by rw [zp_id]; exact hQ, i3⟩ (by omega) (by omega)
  · refine s_ldI2 ok rfl ?_
    exact s_retI ok rfl ⟨congrArg (fun z => some (Value.int (iI z))) (if_neg c7).symm, h, r, rfl, fun _ _ => rfl, fun _ _ => rfl⟩
