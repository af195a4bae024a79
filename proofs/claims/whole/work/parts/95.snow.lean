/-! the class: snow -/
theorem zpn_st {p : Int → Int} {v m : Int} (m0 : 0 ≤ m) : zp (zpn p v m) (7 + m) (zpn p v m (7 + m) + v) = zpn p v (m + 1) := by
  have e : zpn p v m (7 + m) = p (7 + m) := if_neg (by omega)
  rw [e]
  funext j
  unfold zp zpn
  by_cases c : j = 7 + m
  · rw [if_pos c, if_pos (by omega), c]
  · rw [if_neg c]
    by_cases d : 7 ≤ j ∧ j < 7 + m
    · rw [if_pos d, if_pos (by omega)]
    · rw [if_neg d, if_neg (by omega)]
theorem lp_snow11 {E : zE} {d : Nat} {k : Nat → Nat × Nat} {h : Nat → Int → Int} {r : Nat → Int → Option Nat} {l : Nat → Nat → Int64} {n : Nat} {p : Int → Int} (hs : pS p) (hR : cR 4 5 6 7 8 9 10 11 12 13 k h r n p (-4)) {v : Int} (yv : 0 ≤ v ∧ v ≤ 30) : ∀ c : Nat, ∀ (m : Nat) (g : Nat → Int → Int) (r9 : Nat → Int → Option Nat), cT h g ∧ cR 15 16 17 18 19 20 21 22 23 24 k g r9 n (zpn p v (m : Int)) (-4) ∧ (∀ q, ¬ q = 16 → r9 q = r q) → 4 < m + c → m ≤ 4 → zGo E (d + 10) M_X11_snow 0 0 (zVx (.int (iI (zmxs (dN (zpn p v 4) (-4) 3 71) (p 6).toNat))) (fun s => ∃ g r9, s = zJ (k, g, r9, l, n) ∧ cT h g ∧ (∀ q, ¬ q = 16 → r9 q = r q))) 25 ([some (.ref 3), some (.int (iI (v))), some (.int (iI ((m : Int))))], [], zJ (k, g, r9, l, n), 0, 0) := by
  have ok := ok_X11_snow
  intro c
  induction c with
  | zero =>
    intros
    omega
  | succ c ih =>
    intro m g r9 ⟨i1, i2, i3⟩ g1 g2
    have hp := hs.1
    have hft := hs.2.2.2.1
    have p60 := hp.2.2.2.2.2.2.2.2.2.2.2.2.1
    have p68 := hp.2.2.2.2.2.2.2.2.2.2.2.2.2.1
    have p00 := hp.1
    have p04 := hp.2.1
    have hf : ∀ q : Int, 0 ≤ q → q < p 6 → ¬ pFr p q = 4 := fun q q0 q1 => by have := pOf_gt hp q0 (by omega) (hft q q0 q1); omega
    refine s_ldI2 ok rfl ?_
    refine s_ci ok rfl ?_
    refine s_c_ge ok rfl ⟨by omega, by omega⟩ ⟨by omega, by omega⟩ (fun c27 => ?_) (fun c27 => ?_)
    · have hp9 : pOK (zpn p v 4) := pOK_snow hp yv.1 yv.2 hs.2.2.1
      have e69 : (zpn p v 4) 6 = p 6 := if_neg (by omega)
      have hft9 : ∀ u : Int, 0 ≤ u → u < (zpn p v 4) 6 → pFr (zpn p v 4) u < pTo (zpn p v 4) u := fun u u0 u1 => by
        rw [show pFr (zpn p v 4) u = pFr p u from if_neg (by omega), show pTo (zpn p v 4) u = pTo p u from if_neg (by omega)]
        exact hft u u0 (by omega)
      have hf9 : ∀ u : Int, 0 ≤ u → u < (zpn p v 4) 6 → ¬ pFr (zpn p v 4) u = 4 := fun u u0 u1 => by have := pOf_gt hp9 u0 (by omega) (hft9 u u0 u1); omega
      have em : m = 4 := by omega
      subst em
      have hR9 : cR 15 16 17 18 19 20 21 22 23 24 k g r9 n (zpn p v 4) (-4) := i2
      refine s_ldA0 ok rfl ?_
      refine s_getF ok rfl rfl rfl rfl ?_
      refine s_ldA0 ok rfl ?_
      refine s_getF ok rfl rfl rfl rfl ?_
      refine s_ci ok rfl ?_
      refine s_callVvx ok rfl rfl rfl rfl rfl rfl (ct_go15 (d := d + 1) (p := (zpn p v 4)) (w := -4) (dd := 3) hp9 (Or.inr rfl) (Or.inl rfl) hf9 hR9) (fun σ58 hσ58 => ?_)
      obtain ⟨g58, rfl, hg58⟩ := hσ58
      obtain ⟨gf58, -, gC58, gT58, gS58⟩ := hg58
      have D58 := tD_of hp9 (Or.inl rfl) hft9 gT58 gS58
      have e3758 : g58 37 6 = (zpn p v 4) 6 := gC58.1.trans cnP_4
      have hz58 : ∀ s : Int, 0 ≤ s → s < (zpn p v 4) 6 → zb (g58 44 s) := fun s s0 s1 => by
        rw [(tD_one D58 s0 s1).1]
        split
        · exact ⟨by omega, by omega⟩
        · exact (dN_ok (dd := 3) hp9 (w := -4) ⟨by omega, by omega⟩).2.1 s
      have eA58 : zsum (tO g58) ((zpn p v 4) 6).toNat = dMn (zpn p v 4) (-4) 3 := by
        unfold dMn
        refine zsum_cg _ fun s s0 s1 => ?_
        have := (tD_a D58 (t := s) s0 (by rw [cnP_4]; omega)).2.1
        rw [sg_4] at this
        exact this
      have DL : ∀ t : Int, 0 ≤ t → t < p 6 → tL g58 t = (if dN (zpn p v 4) (-4) 3 71 t < 0 then 0 else dN (zpn p v 4) (-4) 3 71 t) := fun t t0 t1 => by
        have := (tD_a D58 (t := t) t0 (by rw [cnP_4, e69]; exact t1)).2.2.1
        rw [sg_4] at this
        exact this
      have zL : ∀ t : Int, 0 ≤ t → t < ((p 6).toNat : Int) → zb (tL g58 t) := fun t t0 t1 => by
        rw [DL t t0 (by omega)]
        split
        · exact ⟨by omega, by omega⟩
        · exact (dN_ok (dd := 3) hp9 (w := -4) ⟨by omega, by omega⟩).2.2.1 t
      have eL : zmxs (tL g58) (p 6).toNat = zmxs (dN (zpn p v 4) (-4) 3 71) (p 6).toNat := zmxs_cg2 _ fun t t0 t1 => by
        rw [DL t t0 (by omega)]
        split
        · rename_i c
          exact Or.inr ⟨rfl, c⟩
        · exact Or.inl rfl
      refine s_ldA0 ok rfl ?_
      refine s_getF ok rfl rfl rfl rfl ?_
      refine s_callV ok rfl rfl rfl rfl rfl rfl (ct_latest9 (h := g58) (cn := (p 6).toNat) (by rw [e3758]; omega) (by omega) (fun t t0 t1 => hz58 t t0 (by omega)) zL) ?_
      exact s_retI ok rfl ⟨congrArg (fun z => some (Value.int (iI z))) eL, g58, r9, rfl, fun q hq => (gf58 q (by omega)).trans (i1 q hq), i3⟩
    · refine s_ldA0 ok rfl ?_
      refine s_getF ok rfl rfl rfl rfl ?_
      refine s_getF ok rfl rfl rfl rfl ?_
      refine s_ldI2 ok rfl ?_
      refine s_dup2 ok rfl ?_
      refine s_iald ok rfl (by exact rfl) (by exact rfl) (by omega) (by omega) ?_
      refine s_ldI1 ok rfl ?_
      refine s_add ok rfl ?_
      refine s_iast ok rfl (by exact rfl) (by exact rfl) (by omega) (by omega) (fun q => by cases q) ?_
      refine s_inc2 ok rfl rfl ?_
      refine s_goto ok rfl ?_
      have e9 := cR15_run i2 (x := (m : Int)) (v := g 23 (m : Int) + v) (by omega) (by omega)
      rw [show g 23 (m : Int) = zpn p v (m : Int) (7 + (m : Int)) from (i2.2.2.2.2.2 (m : Int) (by omega) (by omega)).1, zpn_st (by omega)] at e9
      refine ih (m + 1) _ r9 ⟨fun q hq => (zv_other (by omega)).trans (i1 q hq), ?_, i3⟩ (by omega) (by omega)
      rw [show g 23 (m : Int) = zpn p v (m : Int) (7 + (m : Int)) from (i2.2.2.2.2.2 (m : Int) (by omega) (by omega)).1]
      exact e9
theorem ct_snow11 {E : zE} {d : Nat} {k : Nat → Nat × Nat} {h : Nat → Int → Int} {r : Nat → Int → Option Nat} {l : Nat → Nat → Int64} {n : Nat} {p : Int → Int} (hs : pS p) (hR : cR 4 5 6 7 8 9 10 11 12 13 k h r n p (-4)) {v : Int} (zt : zb v) : zCT E (d + 10) M_X11_snow [.ref 3, .int (iI (v))] (zJ (k, h, r, l, n)) 0 0 (zVx (.int (iI (if 0 ≤ v ∧ v ≤ 30 then zmxs (dN (zpn p v 4) (-4) 3 71) (p 6).toNat else -1))) (fun s => ∃ g r9, s = zJ (k, g, r9, l, n) ∧ cT h g ∧ (∀ q, ¬ q = 16 → r9 q = r q))) := by
  have ok := ok_X11_snow
  refine zCT_of pn_X11_snow (Nat.le_of_ble_eq_true rfl) ?_
  show zGo _ _ _ _ _ _ 0 ([some (.ref 3), some (.int (iI (v))), none], [], _, _, _)
  have hp := hs.1
  have hft := hs.2.2.2.1
  have p60 := hp.2.2.2.2.2.2.2.2.2.2.2.2.1
  have p68 := hp.2.2.2.2.2.2.2.2.2.2.2.2.2.1
  have p00 := hp.1
  have p04 := hp.2.1
  have hf : ∀ q : Int, 0 ≤ q → q < p 6 → ¬ pFr p q = 4 := fun q q0 q1 => by have := pOf_gt hp q0 (by omega) (hft q q0 q1); omega
  refine s_ldI1 ok rfl ?_
  refine s_if_lt ok rfl zt (fun c1 => ?_) (fun c1 => ?_)
  · refine s_ci ok rfl ?_
    first
      | exact s_retI ok rfl ⟨congrArg (fun z => some (Value.int (iI z))) (if_neg (fun q => absurd q.1 (by omega))).symm, h, r, rfl, fun _ _ => rfl, fun _ _ => rfl⟩
      | exact s_retI ok rfl ⟨congrArg (fun z => some (Value.int (iI z))) (if_neg (fun q => absurd q.2 (by omega))).symm, h, r, rfl, fun _ _ => rfl, fun _ _ => rfl⟩
  · refine s_ldI1 ok rfl ?_
    refine s_ci ok rfl ?_
    refine s_c_le ok rfl zt ⟨by omega, by omega⟩ (fun c7 => ?_) (fun c7 => ?_)
    · refine s_ldA0 ok rfl ?_
      refine s_getF ok rfl rfl rfl rfl ?_
      refine s_ldA0 ok rfl ?_
      refine s_getF ok rfl rfl rfl rfl ?_
      refine s_callVvx ok rfl rfl rfl rfl rfl rfl (ct_become15_4 (d := d + 8) hR (by rw [cnP_4]; omega) p04) (fun σ20 hσ20 => ?_)
      obtain ⟨g20, r20, rfl, hg20⟩ := hσ20
      obtain ⟨f20, i3, hQ⟩ := hg20
      refine s_ci ok rfl ?_
      refine s_stI2 ok rfl rfl ?_
      have yv : 0 ≤ v ∧ v ≤ 30 := ⟨by omega, by omega⟩
      have K := lp_snow11 (E := E) (d := d) (k := k) (h := h) (r := r) (l := l) (n := n) hs hR yv 5 0 g20 r20 ⟨fun q hq => f20 q (by omega), by rw [zpn_0]; exact hQ, i3⟩ (by omega) (by omega)
      rw [if_pos yv]
      exact K
    · refine s_ci ok rfl ?_
      first
        | exact s_retI ok rfl ⟨congrArg (fun z => some (Value.int (iI z))) (if_neg (fun q => absurd q.1 (by omega))).symm, h, r, rfl, fun _ _ => rfl, fun _ _ => rfl⟩
        | exact s_retI ok rfl ⟨congrArg (fun z => some (Value.int (iI z))) (if_neg (fun q => absurd q.2 (by omega))).symm, h, r, rfl, fun _ _ => rfl, fun _ _ => rfl⟩
