/-! the class: starts of least worth -/
theorem lp_least11 {E : zE} {d : Nat} {k : Nat → Nat × Nat} {h : Nat → Int → Int} {r : Nat → Int → Option Nat} {l : Nat → Nat → Int64} {n : Nat} {p : Int → Int} (hp : pOK p) (hft : ∀ u : Int, 0 ≤ u → u < p 6 → pFr p u < pTo p u) {t a b s9 : Int} {U : Nat → Int} {N : Nat} (t0 : 0 ≤ t) (t1 : t < p 0) (hU0 : U 0 = a) (hU : ∀ m : Nat, U (m + 1) = U m + s9) (hUi : ∀ m : Nat, m < N → 0 ≤ U m ∧ U m ≤ 300 ∧ U m ≤ b) (hUN : b < U N) (zU : zb (U N)) (b3 : 0 ≤ b ∧ b ≤ 300) : ∀ c : Nat, ∀ (m : Nat) (g : Nat → Int → Int) (x b9 l9 : Int) (u : Option Value), (0 ≤ x ∧ x ≤ 300) → znl u = true → cT h g ∧ cR 15 16 17 18 19 20 21 22 23 24 k g r n (zp p (11 + 2 * t) x) (-4) ∧ ((m = 0 ∧ b9 = a ∧ l9 = 1000000) ∨ (0 < m ∧ b9 = (sBI (fun v => dMi (zp p (11 + 2 * t) v) (-4) 3) U m).1 ∧ l9 = (sBI (fun v => dMi (zp p (11 + 2 * t) v) (-4) 3) U m).2 ∧ 0 ≤ l9 ∧ l9 ≤ 16000)) → N < m + c → m ≤ N → zGo E (d + 9) M_X11_startOfLeastWorth 0 0 (zVx (.int (iI ((sBI (fun v => dMi (zp p (11 + 2 * t) v) (-4) 3) U N).1))) (zG k r l n (cT h))) 11 ([some (.ref 3), some (.int (iI (t))), some (.int (iI (a))), some (.int (iI (b))), some (.int (iI (s9))), some (.int (iI (b9))), some (.int (iI (l9))), some (.int (iI (U m))), u], [], zJ (k, g, r, l, n), 0, 0) := by
  have ok := ok_X11_startOfLeastWorth
  intro c
  induction c with
  | zero =>
    intros
    omega
  | succ c ih =>
    intro m g x b9 l9 u ⟨x0, x1⟩ hu9 ⟨i1, i2, i4⟩ g1 g2
    have p60 := hp.2.2.2.2.2.2.2.2.2.2.2.2.1
    have p68 := hp.2.2.2.2.2.2.2.2.2.2.2.2.2.1
    have p00 := hp.1
    have p04 := hp.2.1
    refine s_ldI7 ok rfl ?_
    refine s_ldI3 ok rfl ?_
    refine s_c_gt ok rfl (by by_cases e : m = N; (subst e; exact zU); (have := hUi m (by omega); exact ⟨by omega, by omega⟩)) ⟨by omega, by omega⟩ (fun c14 => ?_) (fun c14 => ?_)
    · refine s_ldI5 ok rfl ?_
      have em : m = N := by
        by_cases e : m = N
        · exact e
        · have := hUi m (by omega)
          omega
      subst em
      rcases i4 with z | z
      · exact s_retI ok rfl ⟨congrArg (fun z => some (Value.int (iI z))) (by rw [z.2.1, z.1, ← hU0]; rfl), g, rfl, i1⟩
      · exact s_retI ok rfl ⟨congrArg (fun z => some (Value.int (iI z))) z.2.1, g, rfl, i1⟩
    · have mN : m < N := by
        by_cases e : m = N
        · subst e
          omega
        · omega
      have Um := hUi m mN
      have hp9 : pOK (zp p (11 + 2 * t) (U m)) := pOK_put hp (by omega)
      have e69 : (zp p (11 + 2 * t) (U m)) 6 = p 6 := zp_ne (by omega)
      have hft9 : ∀ u : Int, 0 ≤ u → u < (zp p (11 + 2 * t) (U m)) 6 → pFr (zp p (11 + 2 * t) (U m)) u < pTo (zp p (11 + 2 * t) (U m)) u := fun u u0 u1 => by
        rw [show pFr (zp p (11 + 2 * t) (U m)) u = pFr p u from zp_ne (by omega), show pTo (zp p (11 + 2 * t) (U m)) u = pTo p u from zp_ne (by omega)]
        exact hft u u0 (by omega)
      have hf9 : ∀ u : Int, 0 ≤ u → u < (zp p (11 + 2 * t) (U m)) 6 → ¬ pFr (zp p (11 + 2 * t) (U m)) u = 4 := fun u u0 u1 => by have := pOf_gt hp9 u0 (by omega) (hft9 u u0 u1); omega
      have hR9 : cR 15 16 17 18 19 20 21 22 23 24 k (zv g 20 t (U m)) r n (zp p (11 + 2 * t) (U m)) (-4) := by
        have z := cR15_start i2 (x := t) (v := U m) t0 (by omega) (by rw [show zp p (11 + 2 * t) x 0 = p 0 from zp_ne (by omega)]; exact p04)
        rw [zp_zp] at z
        exact z
      refine s_ldA0 ok rfl ?_
      refine s_getF ok rfl rfl rfl rfl ?_
      refine s_getF ok rfl rfl rfl rfl ?_
      refine s_ldI1 ok rfl ?_
      refine s_ldI7 ok rfl ?_
      refine s_iast ok rfl (by exact rfl) (by exact rfl) (by omega) (by omega) (fun q => by cases q) ?_
      refine s_ldA0 ok rfl ?_
      refine s_getF ok rfl rfl rfl rfl ?_
      refine s_ldA0 ok rfl ?_
      refine s_getF ok rfl rfl rfl rfl ?_
      refine s_ci ok rfl ?_
      refine s_callVvx ok rfl rfl rfl rfl rfl rfl (ct_go15 (d := d) (p := (zp p (11 + 2 * t) (U m))) (w := -4) (dd := 3) hp9 (Or.inr rfl) (Or.inl rfl) hf9 hR9) (fun σ37 hσ37 => ?_)
      obtain ⟨g37, rfl, hg37⟩ := hσ37
      obtain ⟨gf37, -, gC37, gT37, gS37⟩ := hg37
      have D37 := tD_of hp9 (Or.inl rfl) hft9 gT37 gS37
      have e3737 : g37 37 6 = (zp p (11 + 2 * t) (U m)) 6 := gC37.1.trans cnP_4
      have hz37 : ∀ s : Int, 0 ≤ s → s < (zp p (11 + 2 * t) (U m)) 6 → zb (g37 44 s) := fun s s0 s1 => by
        rw [(tD_one D37 s0 s1).1]
        split
        · exact ⟨by omega, by omega⟩
        · exact (dN_ok (dd := 3) hp9 (w := -4) ⟨by omega, by omega⟩).2.1 s
      have eA37 : zsum (tA g37) ((zp p (11 + 2 * t) (U m)) 6).toNat = dMi (zp p (11 + 2 * t) (U m)) (-4) 3 := by
        unfold dMi
        refine zsum_cg _ fun s s0 s1 => ?_
        have := (tD_a D37 (t := s) s0 (by rw [cnP_4]; omega)).1
        rw [sg_4] at this
        exact this
      have bd := dMi_in (p := (zp p (11 + 2 * t) (U m))) (w := -4) (dd := 3) hp9 ⟨by omega, by omega⟩
      have es : sBI (fun v => dMi (zp p (11 + 2 * t) v) (-4) 3) U (m + 1) = if (sBI (fun v => dMi (zp p (11 + 2 * t) v) (-4) 3) U m).2 ≤ dMi (zp p (11 + 2 * t) (U m)) (-4) 3 then sBI (fun v => dMi (zp p (11 + 2 * t) v) (-4) 3) U m else (U m, dMi (zp p (11 + 2 * t) (U m)) (-4) 3) := rfl
      refine s_ldA0 ok rfl ?_
      refine s_getF ok rfl rfl rfl rfl ?_
      refine s_callV ok rfl rfl rfl rfl rfl rfl (ct_allArrivals9 (h := g37) (cn := ((zp p (11 + 2 * t) (U m)) 6).toNat) (by rw [e3737]; omega) (by omega) (fun s s0 s1 => hz37 s s0 (by omega))) ?_
      rw [eA37]
      refine s_stI8 ok rfl rfl ?_
      refine s_ldI8 ok rfl ?_
      refine s_ldI6 ok rfl ?_
      refine s_c_ge ok rfl ⟨by omega, by omega⟩ ⟨by omega, by omega⟩ (fun c53 => ?_) (fun c53 => ?_)
      · refine s_ldI7 ok rfl ?_
        refine s_ldI4 ok rfl ?_
        refine s_add ok rfl ?_
        refine s_stI7 ok rfl rfl ?_
        refine s_goto ok rfl ?_
        have J1 : cT h g37 := fun q hq => (gf37 q (by omega)).trans ((zv_other (by omega)).trans (i1 q hq))
        rw [← hU m]
        first
          | (have c : l9 ≤ dMi (zp p (11 + 2 * t) (U m)) (-4) 3 := c53
             have mp : 0 < m := by omega
             have i5 : b9 = (sBI (fun v => dMi (zp p (11 + 2 * t) v) (-4) 3) U m).1 ∧ l9 = (sBI (fun v => dMi (zp p (11 + 2 * t) v) (-4) 3) U m).2 ∧ 0 ≤ l9 ∧ l9 ≤ 16000 := by
               rcases i4 with z | z
               · omega
               · exact z.2
             rw [if_pos (by omega)] at es
             exact ih (m + 1) g37 (U m) b9 l9 (some (.int (iI (dMi (zp p (11 + 2 * t) (U m)) (-4) 3)))) ⟨by omega, by omega⟩ rfl ⟨J1, cR15_trip hR9 gf37, Or.inr ⟨by omega, by rw [es]; exact i5.1, by rw [es]; exact i5.2.1, i5.2.2⟩⟩ (by omega) (by omega))
          | (have c : dMi (zp p (11 + 2 * t) (U m)) (-4) 3 < l9 := c53
             have i5 : ¬ (sBI (fun v => dMi (zp p (11 + 2 * t) v) (-4) 3) U m).2 ≤ dMi (zp p (11 + 2 * t) (U m)) (-4) 3 := by
               rcases i4 with z | z
               · have : (sBI (fun v => dMi (zp p (11 + 2 * t) v) (-4) 3) U m).2 = 1000000000 := by rw [z.1]; rfl
                 omega
               · omega
             rw [if_neg i5] at es
             exact ih (m + 1) g37 (U m) (U m) (dMi (zp p (11 + 2 * t) (U m)) (-4) 3) (some (.int (iI (dMi (zp p (11 + 2 * t) (U m)) (-4) 3)))) ⟨by omega, by omega⟩ rfl ⟨J1, cR15_trip hR9 gf37, Or.inr ⟨by omega, by rw [es], by rw [es], by omega, by omega⟩⟩ (by omega) (by omega))
      · refine s_ldI8 ok rfl ?_
        refine s_stI6 ok rfl rfl ?_
        refine s_ldI7 ok rfl ?_
        refine s_stI5 ok rfl rfl ?_
        refine s_ldI7 ok rfl ?_
        refine s_ldI4 ok rfl ?_
        refine s_add ok rfl ?_
        refine s_stI7 ok rfl rfl ?_
        refine s_goto ok rfl ?_
        have J1 : cT h g37 := fun q hq => (gf37 q (by omega)).trans ((zv_other (by omega)).trans (i1 q hq))
        rw [← hU m]
        first
          | (have c : l9 ≤ dMi (zp p (11 + 2 * t) (U m)) (-4) 3 := c53
             have mp : 0 < m := by omega
             have i5 : b9 = (sBI (fun v => dMi (zp p (11 + 2 * t) v) (-4) 3) U m).1 ∧ l9 = (sBI (fun v => dMi (zp p (11 + 2 * t) v) (-4) 3) U m).2 ∧ 0 ≤ l9 ∧ l9 ≤ 16000 := by
               rcases i4 with z | z
               · omega
               · exact z.2
             rw [if_pos (by omega)] at es
             exact ih (m + 1) g37 (U m) b9 l9 (some (.int (iI (dMi (zp p (11 + 2 * t) (U m)) (-4) 3)))) ⟨by omega, by omega⟩ rfl ⟨J1, cR15_trip hR9 gf37, Or.inr ⟨by omega, by rw [es]; exact i5.1, by rw [es]; exact i5.2.1, i5.2.2⟩⟩ (by omega) (by omega))
          | (have c : dMi (zp p (11 + 2 * t) (U m)) (-4) 3 < l9 := c53
             have i5 : ¬ (sBI (fun v => dMi (zp p (11 + 2 * t) v) (-4) 3) U m).2 ≤ dMi (zp p (11 + 2 * t) (U m)) (-4) 3 := by
               rcases i4 with z | z
               · have : (sBI (fun v => dMi (zp p (11 + 2 * t) v) (-4) 3) U m).2 = 1000000000 := by rw [z.1]; rfl
                 omega
               · omega
             rw [if_neg i5] at es
             exact ih (m + 1) g37 (U m) (U m) (dMi (zp p (11 + 2 * t) (U m)) (-4) 3) (some (.int (iI (dMi (zp p (11 + 2 * t) (U m)) (-4) 3)))) ⟨by omega, by omega⟩ rfl ⟨J1, cR15_trip hR9 gf37, Or.inr ⟨by omega, by rw [es], by rw [es], by omega, by omega⟩⟩ (by omega) (by omega))
theorem ct_least11 {E : zE} {d : Nat} {k : Nat → Nat × Nat} {h : Nat → Int → Int} {r : Nat → Int → Option Nat} {l : Nat → Nat → Int64} {n : Nat} {p : Int → Int} (hp : pOK p) (hft : ∀ u : Int, 0 ≤ u → u < p 6 → pFr p u < pTo p u) {t a b s9 : Int} {U : Nat → Int} {N : Nat} (t0 : 0 ≤ t) (t1 : t < p 0) (hU0 : U 0 = a) (hU : ∀ m : Nat, U (m + 1) = U m + s9) (hUi : ∀ m : Nat, m < N → 0 ≤ U m ∧ U m ≤ 300 ∧ U m ≤ b) (hUN : b < U N) (zU : zb (U N)) (b3 : 0 ≤ b ∧ b ≤ 300) (hR : cR 15 16 17 18 19 20 21 22 23 24 k h r n p (-4)) : zCT E (d + 9) M_X11_startOfLeastWorth [.ref 3, .int (iI (t)), .int (iI (a)), .int (iI (b)), .int (iI (s9))] (zJ (k, h, r, l, n)) 0 0 (zVx (.int (iI ((sBI (fun v => dMi (zp p (11 + 2 * t) v) (-4) 3) U N).1))) (zG k r l n (cT h))) := by
  have ok := ok_X11_startOfLeastWorth
  refine zCT_of pn_X11_startOfLeastWorth (Nat.le_of_ble_eq_true rfl) ?_
  show zGo _ _ _ _ _ _ 0 ([some (.ref 3), some (.int (iI (t))), some (.int (iI (a))), some (.int (iI (b))), some (.int (iI (s9))), none, none, none, none], [], _, _, _)
  have p60 := hp.2.2.2.2.2.2.2.2.2.2.2.2.1
  have p68 := hp.2.2.2.2.2.2.2.2.2.2.2.2.2.1
  have p00 := hp.1
  have p04 := hp.2.1
  refine s_ldI2 ok rfl ?_
  refine s_stI5 ok rfl rfl ?_
  refine s_ci ok rfl ?_
  refine s_stI6 ok rfl rfl ?_
  refine s_ldI2 ok rfl ?_
  refine s_stI7 ok rfl rfl ?_
  rw [← hU0]
  have st0 := (hp.2.2.2.2.2.2.2.2.2.2.2.2.2.2.2.1 t t0 (by omega))
  exact lp_least11 (E := E) (d := d) (k := k) (h := h) (r := r) (l := l) (n := n) hp hft t0 t1 rfl hU hUi hUN zU b3 (N + 1) 0 h (p (11 + 2 * t)) (U 0) 1000000 none ⟨st0.1, st0.2.1⟩ rfl ⟨fun _ _ => rfl, by rw [zp_id]; exact hR, Or.inl ⟨rfl, rfl, rfl⟩⟩ (by omega) (by omega)
theorem ct_bestStart11 {E : zE} {d : Nat} {k : Nat → Nat × Nat} {h : Nat → Int → Int} {r : Nat → Int → Option Nat} {l : Nat → Nat → Int64} {n : Nat} {p : Int → Int} (hs : pS p) (hR : cR 4 5 6 7 8 9 10 11 12 13 k h r n p (-4)) {t : Int} (zt : zb t) : zCT E (d + 10) M_X11_bestStart [.ref 3, .int (iI (t))] (zJ (k, h, r, l, n)) 0 0 (zVx (.int (iI (if 0 ≤ t ∧ t < p 0 then (sBI (fun v => dMi (zp p (11 + 2 * t) v) (-4) 3) (fun m => max 0 (p (11 + 2 * t) - 20) + (m : Int)) (min 300 (p (11 + 2 * t) + 20) - max 0 (p (11 + 2 * t) - 20) + 1).toNat).1 else -1))) (fun s => ∃ g r9, s = zJ (k, g, r9, l, n) ∧ cT h g ∧ (∀ q, ¬ q = 16 → r9 q = r q))) := by
  have ok := ok_X11_bestStart
  refine zCT_of pn_X11_bestStart (Nat.le_of_ble_eq_true rfl) ?_
  show zGo _ _ _ _ _ _ 0 ([some (.ref 3), some (.int (iI (t))), none, none], [], _, _, _)
  have hp := hs.1
  have hft := hs.2.2.2.1
  have p60 := hp.2.2.2.2.2.2.2.2.2.2.2.2.1
  have p68 := hp.2.2.2.2.2.2.2.2.2.2.2.2.2.1
  have p00 := hp.1
  have p04 := hp.2.1
  have hf : ∀ q : Int, 0 ≤ q → q < p 6 → ¬ pFr p q = 4 := fun q q0 q1 => by have := pOf_gt hp q0 (by omega) (hft q q0 q1); omega
  refine s_ldA0 ok rfl ?_
  refine s_getF ok rfl rfl rfl rfl ?_
  refine s_ldI1 ok rfl ?_
  refine s_callV ok rfl rfl rfl rfl rfl rfl (ct_pisTrain4 hR.1.2 p00 p04 zt) ?_
  refine s_if_eq ok rfl zif01 (fun c8 => ?_) (fun c8 => ?_)
  · refine s_ci ok rfl ?_
    exact s_retI ok rfl ⟨congrArg (fun z => some (Value.int (iI z))) (if_neg (zif_f c8)).symm, h, r, rfl, fun _ _ => rfl, fun _ _ => rfl⟩
  · have yt := zif_t c8
    have st0 := hp.2.2.2.2.2.2.2.2.2.2.2.2.2.2.2.1 t yt.1 (by omega)
    refine s_ldA0 ok rfl ?_
    refine s_getF ok rfl rfl rfl rfl ?_
    refine s_ldA0 ok rfl ?_
    refine s_getF ok rfl rfl rfl rfl ?_
    refine s_callVvx ok rfl rfl rfl rfl rfl rfl (ct_become15_4 (d := d + 8) hR (by rw [cnP_4]; omega) p04) (fun σ21 hσ21 => ?_)
    obtain ⟨g21, r21, rfl, f21, i3, hQ⟩ := hσ21
    refine s_ci ok rfl ?_
    refine s_ldA0 ok rfl ?_
    refine s_getF ok rfl rfl rfl rfl ?_
    refine s_getF ok rfl rfl rfl rfl ?_
    refine s_ldI1 ok rfl ?_
    refine s_iald ok rfl (by exact rfl) (by exact rfl) (by omega) (by omega) ?_
    rw [show g21 9 t = p (11 + 2 * t) from (congrFun (f21 9 (by omega)) t).trans (hR.2.2.2.1 t yt.1 yt.2).1]
    refine s_ci ok rfl ?_
    refine s_sub ok rfl ?_
    refine s_max ok rfl rfl rfl ⟨by omega, by omega⟩ ⟨by omega, by omega⟩ ?_
    rw [show (if 0 < p (11 + 2 * t) - 20 then p (11 + 2 * t) - 20 else 0) = (max 0 (p (11 + 2 * t) - 20)) from by split <;> omega]
    refine s_stI2 ok rfl rfl ?_
    refine s_ci ok rfl ?_
    refine s_ldA0 ok rfl ?_
    refine s_getF ok rfl rfl rfl rfl ?_
    refine s_getF ok rfl rfl rfl rfl ?_
    refine s_ldI1 ok rfl ?_
    refine s_iald ok rfl (by exact rfl) (by exact rfl) (by omega) (by omega) ?_
    rw [show g21 9 t = p (11 + 2 * t) from (congrFun (f21 9 (by omega)) t).trans (hR.2.2.2.1 t yt.1 yt.2).1]
    refine s_ci ok rfl ?_
    refine s_add ok rfl ?_
    refine s_min ok rfl rfl rfl (by first | exact hb _ _ | exact ⟨by omega, by omega⟩) (by first | exact hb _ _ | exact ⟨by omega, by omega⟩) ?_
    rw [show (if p (11 + 2 * t) + 20 < 300 then p (11 + 2 * t) + 20 else 300) = (min 300 (p (11 + 2 * t) + 20)) from by split <;> omega]
    refine s_stI3 ok rfl rfl ?_
    refine s_ldA0 ok rfl ?_
    refine s_ldI1 ok rfl ?_
    refine s_ldI2 ok rfl ?_
    refine s_ldI3 ok rfl ?_
    refine s_ci ok rfl ?_
    refine s_callVx ok rfl rfl rfl rfl rfl rfl (ct_least11 (d := d) (h := g21) (r := r21) (p := p) (t := t) (a := (max 0 (p (11 + 2 * t) - 20))) (b := (min 300 (p (11 + 2 * t) + 20))) (s9 := 1) (U := fun m => max 0 (p (11 + 2 * t) - 20) + (m : Int)) (N := (min 300 (p (11 + 2 * t) + 20) - max 0 (p (11 + 2 * t) - 20) + 1).toNat) hp hft yt.1 yt.2 (by show (max 0 (p (11 + 2 * t) - 20)) + ((0 : Nat) : Int) = (max 0 (p (11 + 2 * t) - 20)); omega) (fun m => by show (max 0 (p (11 + 2 * t) - 20)) + ((m + 1 : Nat) : Int) = (max 0 (p (11 + 2 * t) - 20)) + (m : Int) + 1; omega) (fun m hm => by show 0 ≤ (max 0 (p (11 + 2 * t) - 20)) + (m : Int) ∧ (max 0 (p (11 + 2 * t) - 20)) + (m : Int) ≤ 300 ∧ (max 0 (p (11 + 2 * t) - 20)) + (m : Int) ≤ (min 300 (p (11 + 2 * t) + 20)); omega) (by show (min 300 (p (11 + 2 * t) + 20)) < (max 0 (p (11 + 2 * t) - 20)) + ((((min 300 (p (11 + 2 * t) + 20)) - (max 0 (p (11 + 2 * t) - 20)) + 1).toNat : Nat) : Int); omega) (by show zb ((max 0 (p (11 + 2 * t) - 20)) + ((((min 300 (p (11 + 2 * t) + 20)) - (max 0 (p (11 + 2 * t) - 20)) + 1).toNat : Nat) : Int)); exact ⟨by omega, by omega⟩) ⟨by omega, by omega⟩ hQ) (fun σ65 hσ65 => ?_)
    obtain ⟨g65, rfl, hg65⟩ := hσ65
    exact s_retI ok rfl ⟨congrArg (fun z => some (Value.int (iI z))) (if_pos yt).symm, g65, r21, rfl, fun q hq => (hg65 q hq).trans (f21 q (by omega)), i3⟩
theorem ct_extra11 {E : zE} {d : Nat} {k : Nat → Nat × Nat} {h : Nat → Int → Int} {r : Nat → Int → Option Nat} {l : Nat → Nat → Int64} {n : Nat} {p : Int → Int} (hs : pS p) (hR : cR 4 5 6 7 8 9 10 11 12 13 k h r n p (-4)) : zCT E (d + 10) M_X11_extra [.ref 3] (zJ (k, h, r, l, n)) 0 0 (zVx (.int (iI (if p 0 = 4 then -4 else (sBI (fun v => dMi (zp (pXt p) (11 + 2 * p 0) v) (-4) 3) (fun m => 10 * (m : Int)) 31).1))) (fun s => ∃ g r9, s = zJ (k, g, r9, l, n) ∧ cT h g ∧ (∀ q, ¬ q = 16 → r9 q = r q))) := by
  have ok := ok_X11_extra
  refine zCT_of pn_X11_extra (Nat.le_of_ble_eq_true rfl) ?_
  show zGo _ _ _ _ _ _ 0 ([some (.ref 3)], [], _, _, _)
  have hp := hs.1
  have hft := hs.2.2.2.1
  have p60 := hp.2.2.2.2.2.2.2.2.2.2.2.2.1
  have p68 := hp.2.2.2.2.2.2.2.2.2.2.2.2.2.1
  have p00 := hp.1
  have p04 := hp.2.1
  have hf : ∀ q : Int, 0 ≤ q → q < p 6 → ¬ pFr p q = 4 := fun q q0 q1 => by have := pOf_gt hp q0 (by omega) (hft q q0 q1); omega
  refine s_ldA0 ok rfl ?_
  refine s_getF ok rfl rfl rfl rfl ?_
  refine s_ldA0 ok rfl ?_
  refine s_getF ok rfl rfl rfl rfl ?_
  refine s_callVvx ok rfl rfl rfl rfl rfl rfl (ct_become15_4 (d := d + 8) hR (by rw [cnP_4]; omega) p04) (fun σ8 hσ8 => ?_)
  obtain ⟨g8, r8, rfl, f8, i3, hQ⟩ := hσ8
  refine s_ldA0 ok rfl ?_
  refine s_getF ok rfl rfl rfl rfl ?_
  refine s_ci ok rfl ?_
  refine s_ci ok rfl ?_
  refine s_callVx ok rfl rfl rfl rfl rfl rfl (ct_addTrain15 hQ p00 p04 hp.2.2.1 hs.2.2.2.2) (fun σ18 hσ18 => ?_)
  obtain ⟨g18, rfl, hg18⟩ := hσ18
  obtain ⟨f18, hT⟩ := hg18
  refine s_if_eq ok rfl zif01 (fun c21 => ?_) (fun c21 => ?_)
  · refine s_ci ok rfl ?_
    have e4 : p 0 = 4 := by have := zif_f c21; omega
    exact s_retI ok rfl ⟨congrArg (fun z => some (Value.int (iI z))) (if_pos e4).symm, g18, r8, rfl, fun q hq => (f18 q (by omega)).trans (f8 q (by omega)), i3⟩
  · have lt4 := zif_t c21
    have n4 : ¬ p 0 = 4 := by omega
    rw [if_pos lt4] at hT
    have hX : cR 15 16 17 18 19 20 21 22 23 24 k g18 r8 n (pXt p) (-4) := hT
    have hpx := pXt_ok hp n4
    have ex0 : pXt p 0 = p 0 + 1 := zp_at
    have exf : ∀ j : Int, 19 ≤ j ∨ j = 6 → pXt p j = p j := fun j hj => (zp_ne (by omega)).trans ((zp_ne (by omega)).trans (zp_ne (by omega)))
    have hftx : ∀ u : Int, 0 ≤ u → u < pXt p 6 → pFr (pXt p) u < pTo (pXt p) u := fun u u0 u1 => by
      rw [show pFr (pXt p) u = pFr p u from exf _ (by omega), show pTo (pXt p) u = pTo p u from exf _ (by omega)]
      exact hft u u0 (by rw [exf 6 (by omega)] at u1; exact u1)
    have e5 : g18 15 5 = p 0 + 1 := hX.1.2.trans ex0
    refine s_ldA0 ok rfl ?_
    refine s_ldA0 ok rfl ?_
    refine s_getF ok rfl rfl rfl rfl ?_
    refine s_getJ 5 ok rfl rfl rfl rfl ?_
    refine s_ci ok rfl ?_
    refine s_sub ok rfl ?_
    rw [e5, show p 0 + 1 - 1 = p 0 by omega]
    refine s_ci ok rfl ?_
    refine s_ci ok rfl ?_
    refine s_ci ok rfl ?_
    refine s_callVx ok rfl rfl rfl rfl rfl rfl (ct_least11 (d := d) (h := g18) (r := r8) (p := pXt p) (t := p 0) (a := 0) (b := 300) (s9 := 10) (U := fun m => 10 * (m : Int)) (N := 31) hpx hftx p00 (by rw [ex0]; omega) rfl (fun m => by show 10 * ((m + 1 : Nat) : Int) = 10 * (m : Int) + 10; omega) (fun m hm => by show 0 ≤ 10 * (m : Int) ∧ 10 * (m : Int) ≤ 300 ∧ 10 * (m : Int) ≤ 300; omega) (by show (300 : Int) < 10 * ((31 : Nat) : Int); omega) (by show zb (10 * ((31 : Nat) : Int)); exact ⟨by omega, by omega⟩) ⟨by omega, by omega⟩ hX) (fun σ43 hσ43 => ?_)
    obtain ⟨g43, rfl, hg43⟩ := hσ43
    exact s_retI ok rfl ⟨congrArg (fun z => some (Value.int (iI z))) (if_neg n4).symm, g43, r8, rfl, fun q hq => (hg43 q hq).trans ((f18 q (by omega)).trans (f8 q (by omega))), i3⟩
theorem sSet_c {x : Int} (x0 : 0 ≤ x) (x1 : x < 12) : iI (-1) &&& (iI 1 <<< (iI x &&& 31)) = iI 4095 &&& (iI 1 <<< (iI x &&& 31)) := by
  rcases (by omega : x = 0 ∨ x = 1 ∨ x = 2 ∨ x = 3 ∨ x = 4 ∨ x = 5 ∨ x = 6 ∨ x = 7 ∨ x = 8 ∨ x = 9 ∨ x = 10 ∨ x = 11) with e | e | e | e | e | e | e | e | e | e | e | e <;> (subst e; decide +kernel)
theorem lp_sure11 {E : zE} {d : Nat} {k : Nat → Nat × Nat} {h : Nat → Int → Int} {r : Nat → Int → Option Nat} {l : Nat → Nat → Int64} {n : Nat} {p : Int → Int} (hs : pS p) (hR : cR 4 5 6 7 8 9 10 11 12 13 k h r n p (-4)) {t : Int} (t0 : 0 ≤ t) (t1 : t < p 6) {what : Int} (zw : zb what) : ∀ c : Nat, ∀ (m : Nat) (g : Nat → Int → Int) (r9 : Nat → Int → Option Nat) (x : Int) (e9 : Int32) (u : Option Value), (0 ≤ x ∧ x ≤ 360) → znl u = true → cT h g ∧ cR 15 16 17 18 19 20 21 22 23 24 k g r9 n (zp p (19 + 5 * t + 4) x) (-4) ∧ (∀ q, ¬ q = 16 → r9 q = r q) ∧ ((m = 0 ∧ e9 = iI (-1)) ∨ (0 < m ∧ e9 = (sSu (sSuB p (-4) 3 t) m).1)) → 10 < m + c → m ≤ 10 → zGo E (d + 10) M_X11_sure 0 0 (zVx (.int (if what = 0 then (sSu (sSuB p (-4) 3 t) 10).1 else (sSu (sSuB p (-4) 3 t) 10).2)) (fun s => ∃ g r9, s = zJ (k, g, r9, l, n) ∧ cT h g ∧ (∀ q, ¬ q = 16 → r9 q = r q))) 41 ([some (.ref 3), some (.int (iI (t))), some (.int (iI (what))), some (.int e9), some (.int (sSu (sSuB p (-4) 3 t) m).2), some (.int (iI ((m : Int)))), u], [], zJ (k, g, r9, l, n), 0, 0) := by
  have ok := ok_X11_sure
  intro c
  induction c with
  | zero =>
    intros
    omega
  | succ c ih =>
    intro m g r9 x e9 u ⟨x0, x1⟩ hu9 ⟨i1, i2, i3, i4⟩ g1 g2
    have hp := hs.1
    have hft := hs.2.2.2.1
    have p60 := hp.2.2.2.2.2.2.2.2.2.2.2.2.1
    have p68 := hp.2.2.2.2.2.2.2.2.2.2.2.2.2.1
    have p00 := hp.1
    have p04 := hp.2.1
    have hf : ∀ q : Int, 0 ≤ q → q < p 6 → ¬ pFr p q = 4 := fun q q0 q1 => by have := pOf_gt hp q0 (by omega) (hft q q0 q1); omega
    obtain ⟨v8, hv8, wv8, h28, h38, h48⟩ := cR4_one hR t0 t1
    have b300 := hs.2.1 t t0 (by omega)
    obtain ⟨-, -, -, -, ⟨ba0, -⟩⟩ := hp.2.2.2.2.2.2.2.2.2.2.2.2.2.2.2.2 t t0 (by omega)
    refine s_ldI5 ok rfl ?_
    refine s_ci ok rfl ?_
    refine s_c_ge ok rfl ⟨by omega, by omega⟩ ⟨by omega, by omega⟩ (fun c45 => ?_) (fun c45 => ?_)
    · refine s_ldI2 ok rfl ?_
      refine s_if_eq ok rfl zw (fun c128 => ?_) (fun c128 => ?_)
      · refine s_ldI3 ok rfl ?_
        refine s_goto ok rfl ?_
        have em : m = 10 := by omega
        subst em
        have e1 : e9 = (sSu (sSuB p (-4) 3 t) 10).1 := by
          rcases i4 with z | z
          · omega
          · exact z.2
        first
          | exact s_retI ok rfl ⟨congrArg (fun z => some (Value.int z)) (e1.trans (if_pos c128).symm), g, r9, rfl, i1, i3⟩
          | exact s_retI ok rfl ⟨congrArg (fun z => some (Value.int z)) (if_neg c128).symm, g, r9, rfl, i1, i3⟩
      · refine s_ldI4 ok rfl ?_
        have em : m = 10 := by omega
        subst em
        have e1 : e9 = (sSu (sSuB p (-4) 3 t) 10).1 := by
          rcases i4 with z | z
          · omega
          · exact z.2
        first
          | exact s_retI ok rfl ⟨congrArg (fun z => some (Value.int z)) (e1.trans (if_pos c128).symm), g, r9, rfl, i1, i3⟩
          | exact s_retI ok rfl ⟨congrArg (fun z => some (Value.int z)) (if_neg c128).symm, g, r9, rfl, i1, i3⟩
    · have hp9 : pOK (zp p (19 + 5 * t + 4) (pBa p t + (m : Int))) := pOK_base hp t0 (by omega) (by omega)
      have e69 : (zp p (19 + 5 * t + 4) (pBa p t + (m : Int))) 6 = p 6 := zp_ne (by omega)
      have hft9 : ∀ u : Int, 0 ≤ u → u < (zp p (19 + 5 * t + 4) (pBa p t + (m : Int))) 6 → pFr (zp p (19 + 5 * t + 4) (pBa p t + (m : Int))) u < pTo (zp p (19 + 5 * t + 4) (pBa p t + (m : Int))) u := fun u u0 u1 => by
        rw [show pFr (zp p (19 + 5 * t + 4) (pBa p t + (m : Int))) u = pFr p u from zp_ne (by omega), show pTo (zp p (19 + 5 * t + 4) (pBa p t + (m : Int))) u = pTo p u from zp_ne (by omega)]
        exact hft u u0 (by omega)
      have hf9 : ∀ u : Int, 0 ≤ u → u < (zp p (19 + 5 * t + 4) (pBa p t + (m : Int))) 6 → ¬ pFr (zp p (19 + 5 * t + 4) (pBa p t + (m : Int))) u = 4 := fun u u0 u1 => by have := pOf_gt hp9 u0 (by omega) (hft9 u u0 u1); omega
      have hR9 : cR 15 16 17 18 19 20 21 22 23 24 k (zv g 19 t (pBa p t + (m : Int))) r9 n (zp p (19 + 5 * t + 4) (pBa p t + (m : Int))) (-4) := by
        have z := cR15_base i2 (x := t) (v := pBa p t + (m : Int)) t0 (by rw [show zp p (19 + 5 * t + 4) x 0 = p 0 from zp_ne (by omega)]; exact p04)
        rw [sg_4, zp_zp] at z
        exact z
      refine s_ldA0 ok rfl ?_
      refine s_getF ok rfl rfl rfl rfl ?_
      refine s_getF ok rfl rfl rfl rfl ?_
      refine s_ldI1 ok rfl ?_
      refine s_ldA0 ok rfl ?_
      refine s_getF ok rfl rfl rfl rfl ?_
      refine s_getF ok rfl rfl rfl rfl ?_
      refine s_ldI1 ok rfl ?_
      refine s_iald ok rfl (by exact rfl) (by exact rfl) (by omega) (by omega) ?_
      rw [show g 8 t = pBa p t from (congrFun (i1 8 (by omega)) t).trans h48]
      refine s_ldI5 ok rfl ?_
      refine s_add ok rfl ?_
      refine s_iast ok rfl (by exact rfl) (by exact rfl) (by omega) (by omega) (fun q => by cases q) ?_
      refine s_ldA0 ok rfl ?_
      refine s_getF ok rfl rfl rfl rfl ?_
      refine s_ldA0 ok rfl ?_
      refine s_getF ok rfl rfl rfl rfl ?_
      refine s_ci ok rfl ?_
      refine s_callVvx ok rfl rfl rfl rfl rfl rfl (ct_go15 (d := d + 1) (p := (zp p (19 + 5 * t + 4) (pBa p t + (m : Int)))) (w := -4) (dd := 3) hp9 (Or.inr rfl) (Or.inl rfl) hf9 hR9) (fun σ78 hσ78 => ?_)
      obtain ⟨g78, rfl, hg78⟩ := hσ78
      obtain ⟨gf78, -, gC78, gT78, gS78⟩ := hg78
      have D78 := tD_of hp9 (Or.inl rfl) hft9 gT78 gS78
      have e3778 : g78 37 6 = (zp p (19 + 5 * t + 4) (pBa p t + (m : Int))) 6 := gC78.1.trans cnP_4
      have hz78 : ∀ s : Int, 0 ≤ s → s < (zp p (19 + 5 * t + 4) (pBa p t + (m : Int))) 6 → zb (g78 44 s) := fun s s0 s1 => by
        rw [(tD_one D78 s0 s1).1]
        split
        · exact ⟨by omega, by omega⟩
        · exact (dN_ok (dd := 3) hp9 (w := -4) ⟨by omega, by omega⟩).2.1 s
      have eA78 : zsum (tO g78) ((zp p (19 + 5 * t + 4) (pBa p t + (m : Int))) 6).toNat = dMn (zp p (19 + 5 * t + 4) (pBa p t + (m : Int))) (-4) 3 := by
        unfold dMn
        refine zsum_cg _ fun s s0 s1 => ?_
        have := (tD_a D78 (t := s) s0 (by rw [cnP_4]; omega)).2.1
        rw [sg_4] at this
        exact this
      have o1 := tD_one D78 (t := t) t0 (by omega)
      have d12 := ((dQy_dN (dd := 3) (w := -4) hp9 ⟨by omega, by omega⟩ hft9).2 t t0 (by omega)).2.2.1
      have eB : (sSuB p (-4) 3 t) (m : Int) = if dN (zp p (19 + 5 * t + 4) (pBa p t + (m : Int))) (-4) 3 69 t < 0 then iI 0 else iI 1 <<< (iI (dN (zp p (19 + 5 * t + 4) (pBa p t + (m : Int))) (-4) 3 69 t) &&& 31) := rfl
      have p04z : (zp p (19 + 5 * t + 4) (pBa p t + (m : Int))) 0 = p 0 := zp_ne (by omega)
      have J1 : cT h g78 := fun q hq => (gf78 q (by omega)).trans ((zv_other (by omega)).trans (i1 q hq))
      refine s_ldA0 ok rfl ?_
      refine s_getF ok rfl rfl rfl rfl ?_
      refine s_ldI1 ok rfl ?_
      refine s_callV ok rfl rfl rfl rfl rfl rfl (ct_arrives9 t0 (by omega) (hz78 t t0 (by omega))) ?_
      refine s_if_eq ok rfl zif10 (fun c89 => ?_) (fun c89 => ?_)
      · refine s_ci ok rfl ?_
        refine s_stI6 ok rfl rfl ?_
        refine s_ldI3 ok rfl ?_
        refine s_ldI6 ok rfl ?_
        refine s_bin ok rfl (by rfl) ?_
        refine s_stI3 ok rfl rfl ?_
        refine s_ldI4 ok rfl ?_
        refine s_ldI6 ok rfl ?_
        refine s_bin ok rfl (by rfl) ?_
        refine s_stI4 ok rfl rfl ?_
        refine s_inc5 ok rfl rfl ?_
        refine s_goto ok rfl ?_
        have es : (sSu (sSuB p (-4) 3 t) (m + 1)) = ((sSu (sSuB p (-4) 3 t) m).1 &&& (sSuB p (-4) 3 t) (m : Int), (sSu (sSuB p (-4) 3 t) m).2 ||| (sSuB p (-4) 3 t) (m : Int)) := rfl
        first
          | (have nn : ¬ dN (zp p (19 + 5 * t + 4) (pBa p t + (m : Int))) (-4) 3 69 t < 0 := fun q => zif_m c89 (by rw [o1.1, if_pos q])
             rw [if_neg nn] at eB
             rw [← eB]
             have nx := ih (m + 1) g78 r9 (pBa p t + (m : Int)) (e9 &&& (sSuB p (-4) 3 t) (m : Int)) (some (.int ((sSuB p (-4) 3 t) (m : Int)))) ⟨by omega, by omega⟩ rfl ⟨J1, cR15_trip hR9 gf78, i3, Or.inr ⟨by omega, by
               rw [es]
               rcases i4 with ⟨z1, z2⟩ | ⟨z1, z2⟩
               · rw [z2]
                 subst z1
                 rw [eB]
                 exact sSet_c (by omega) (by omega)
               · rw [z2]⟩⟩ (by omega) (by omega)
             rw [es] at nx
             exact nx)
          | (have nn : dN (zp p (19 + 5 * t + 4) (pBa p t + (m : Int))) (-4) 3 69 t < 0 := by
               have q := zif_n c89
               rw [o1.1] at q
               by_cases z : dN (zp p (19 + 5 * t + 4) (pBa p t + (m : Int))) (-4) 3 69 t < 0
               · exact z
               · rw [if_neg z] at q
                 omega
             rw [if_pos nn] at eB
             rw [← eB]
             have nx := ih (m + 1) g78 r9 (pBa p t + (m : Int)) (e9 &&& (sSuB p (-4) 3 t) (m : Int)) (some (.int ((sSuB p (-4) 3 t) (m : Int)))) ⟨by omega, by omega⟩ rfl ⟨J1, cR15_trip hR9 gf78, i3, Or.inr ⟨by omega, by
               rw [es]
               rcases i4 with ⟨z1, z2⟩ | ⟨z1, z2⟩
               · rw [z2]
                 subst z1
                 rw [eB]
                 show iI (-1) &&& iI 0 = iI 4095 &&& iI 0
                 decide +kernel
               · rw [z2]⟩⟩ (by omega) (by omega)
             rw [es] at nx
             exact nx)
      · refine s_ci ok rfl ?_
        refine s_ldA0 ok rfl ?_
        refine s_getF ok rfl rfl rfl rfl ?_
        refine s_getF ok rfl rfl rfl rfl ?_
        refine s_ldI1 ok rfl ?_
        refine s_iald ok rfl (by exact rfl) (by exact rfl) (by omega) (by omega) ?_
        have nn : ¬ dN (zp p (19 + 5 * t + 4) (pBa p t + (m : Int))) (-4) 3 69 t < 0 := fun q => zif_m c89 (by rw [o1.1, if_pos q])
        rw [o1.1, if_neg nn]
        refine s_bin ok rfl (by rfl) ?_
        refine s_goto ok rfl ?_
        refine s_stI6 ok rfl rfl ?_
        refine s_ldI3 ok rfl ?_
        refine s_ldI6 ok rfl ?_
        refine s_bin ok rfl (by rfl) ?_
        refine s_stI3 ok rfl rfl ?_
        refine s_ldI4 ok rfl ?_
        refine s_ldI6 ok rfl ?_
        refine s_bin ok rfl (by rfl) ?_
        refine s_stI4 ok rfl rfl ?_
        refine s_inc5 ok rfl rfl ?_
        refine s_goto ok rfl ?_
        have es : (sSu (sSuB p (-4) 3 t) (m + 1)) = ((sSu (sSuB p (-4) 3 t) m).1 &&& (sSuB p (-4) 3 t) (m : Int), (sSu (sSuB p (-4) 3 t) m).2 ||| (sSuB p (-4) 3 t) (m : Int)) := rfl
        first
          | (have nn : ¬ dN (zp p (19 + 5 * t + 4) (pBa p t + (m : Int))) (-4) 3 69 t < 0 := fun q => zif_m c89 (by rw [o1.1, if_pos q])
             rw [if_neg nn] at eB
             rw [← eB]
             have nx := ih (m + 1) g78 r9 (pBa p t + (m : Int)) (e9 &&& (sSuB p (-4) 3 t) (m : Int)) (some (.int ((sSuB p (-4) 3 t) (m : Int)))) ⟨by omega, by omega⟩ rfl ⟨J1, cR15_trip hR9 gf78, i3, Or.inr ⟨by omega, by
               rw [es]
               rcases i4 with ⟨z1, z2⟩ | ⟨z1, z2⟩
               · rw [z2]
                 subst z1
                 rw [eB]
                 exact sSet_c (by omega) (by omega)
               · rw [z2]⟩⟩ (by omega) (by omega)
             rw [es] at nx
             exact nx)
          | (have nn : dN (zp p (19 + 5 * t + 4) (pBa p t + (m : Int))) (-4) 3 69 t < 0 := by
               have q := zif_n c89
               rw [o1.1] at q
               by_cases z : dN (zp p (19 + 5 * t + 4) (pBa p t + (m : Int))) (-4) 3 69 t < 0
               · exact z
               · rw [if_neg z] at q
                 omega
             rw [if_pos nn] at eB
             rw [← eB]
             have nx := ih (m + 1) g78 r9 (pBa p t + (m : Int)) (e9 &&& (sSuB p (-4) 3 t) (m : Int)) (some (.int ((sSuB p (-4) 3 t) (m : Int)))) ⟨by omega, by omega⟩ rfl ⟨J1, cR15_trip hR9 gf78, i3, Or.inr ⟨by omega, by
               rw [es]
               rcases i4 with ⟨z1, z2⟩ | ⟨z1, z2⟩
               · rw [z2]
                 subst z1
                 rw [eB]
                 show iI (-1) &&& iI 0 = iI 4095 &&& iI 0
                 decide +kernel
               · rw [z2]⟩⟩ (by omega) (by omega)
             rw [es] at nx
             exact nx)
theorem ct_sure11 {E : zE} {d : Nat} {k : Nat → Nat × Nat} {h : Nat → Int → Int} {r : Nat → Int → Option Nat} {l : Nat → Nat → Int64} {n : Nat} {p : Int → Int} (hs : pS p) (hR : cR 4 5 6 7 8 9 10 11 12 13 k h r n p (-4)) {t what : Int} (zt : zb t) (zw : zb what) : zCT E (d + 10) M_X11_sure [.ref 3, .int (iI (t)), .int (iI (what))] (zJ (k, h, r, l, n)) 0 0 (zVx (.int (if (0 ≤ t ∧ t < p 6) ∧ (0 ≤ what ∧ what ≤ 1) then (if what = 0 then (sSu (sSuB p (-4) 3 t) 10).1 else (sSu (sSuB p (-4) 3 t) 10).2) else iI (-1))) (fun s => ∃ g r9, s = zJ (k, g, r9, l, n) ∧ cT h g ∧ (∀ q, ¬ q = 16 → r9 q = r q))) := by
  have ok := ok_X11_sure
  refine zCT_of pn_X11_sure (Nat.le_of_ble_eq_true rfl) ?_
  show zGo _ _ _ _ _ _ 0 ([some (.ref 3), some (.int (iI (t))), some (.int (iI (what))), none, none, none, none], [], _, _, _)
  have hp := hs.1
  have hft := hs.2.2.2.1
  have p60 := hp.2.2.2.2.2.2.2.2.2.2.2.2.1
  have p68 := hp.2.2.2.2.2.2.2.2.2.2.2.2.2.1
  have p00 := hp.1
  have p04 := hp.2.1
  have hf : ∀ q : Int, 0 ≤ q → q < p 6 → ¬ pFr p q = 4 := fun q q0 q1 => by have := pOf_gt hp q0 (by omega) (hft q q0 q1); omega
  refine s_ldA0 ok rfl ?_
  refine s_getF ok rfl rfl rfl rfl ?_
  refine s_ldI1 ok rfl ?_
  refine s_callV ok rfl rfl rfl rfl rfl rfl (ct_isPerson4 (cR4_n hR) p60 p68 zt) ?_
  refine s_if_eq ok rfl zif01 (fun c8 => ?_) (fun c8 => ?_)
  · refine s_ci ok rfl ?_
    first
      | exact s_retI ok rfl ⟨congrArg (fun z => some (Value.int z)) (if_neg (fun q => zif_f c8 q.1)).symm, h, r, rfl, fun _ _ => rfl, fun _ _ => rfl⟩
      | exact s_retI ok rfl ⟨congrArg (fun z => some (Value.int z)) (if_neg (fun q => absurd q.2 (by omega))).symm, h, r, rfl, fun _ _ => rfl, fun _ _ => rfl⟩
  · refine s_ldI2 ok rfl ?_
    refine s_if_lt ok rfl zw (fun c12 => ?_) (fun c12 => ?_)
    · refine s_ci ok rfl ?_
      first
        | exact s_retI ok rfl ⟨congrArg (fun z => some (Value.int z)) (if_neg (fun q => zif_f c8 q.1)).symm, h, r, rfl, fun _ _ => rfl, fun _ _ => rfl⟩
        | exact s_retI ok rfl ⟨congrArg (fun z => some (Value.int z)) (if_neg (fun q => absurd q.2 (by omega))).symm, h, r, rfl, fun _ _ => rfl, fun _ _ => rfl⟩
    · refine s_ldI2 ok rfl ?_
      refine s_ci ok rfl ?_
      refine s_c_le ok rfl zw ⟨by omega, by omega⟩ (fun c17 => ?_) (fun c17 => ?_)
      · have yt := zif_t c8
        have yes : (0 ≤ t ∧ t < p 6) ∧ (0 ≤ what ∧ what ≤ 1) := ⟨yt, by omega, by omega⟩
        obtain ⟨t0, t1⟩ := yt
        have b300 := hs.2.1 t t0 (by omega)
        obtain ⟨-, -, -, -, ⟨ba0, -⟩⟩ := hp.2.2.2.2.2.2.2.2.2.2.2.2.2.2.2.2 t t0 (by omega)
        refine s_ldA0 ok rfl ?_
        refine s_getF ok rfl rfl rfl rfl ?_
        refine s_ldA0 ok rfl ?_
        refine s_getF ok rfl rfl rfl rfl ?_
        refine s_callVvx ok rfl rfl rfl rfl rfl rfl (ct_become15_4 (d := d + 8) hR (by rw [cnP_4]; omega) p04) (fun σ30 hσ30 => ?_)
        obtain ⟨g30, r30, rfl, f30, i3, hQ⟩ := hσ30
        refine s_ci ok rfl ?_
        refine s_stI3 ok rfl rfl ?_
        refine s_ci ok rfl ?_
        refine s_stI4 ok rfl rfl ?_
        refine s_ci ok rfl ?_
        refine s_stI5 ok rfl rfl ?_
        rw [if_pos yes]
        exact lp_sure11 (E := E) (d := d) (k := k) (h := h) (r := r) (l := l) (n := n) hs hR t0 t1 zw 11 0 g30 r30 (p (19 + 5 * t + 4)) (iI (-1)) none ⟨ba0, by have : p (19 + 5 * t + 4) ≤ 300 := b300; omega⟩ rfl ⟨fun q hq => f30 q (by omega), by rw [zp_id]; exact hQ, i3, Or.inl ⟨rfl, rfl⟩⟩ (by omega) (by omega)
      · refine s_ci ok rfl ?_
        first
          | exact s_retI ok rfl ⟨congrArg (fun z => some (Value.int z)) (if_neg (fun q => zif_f c8 q.1)).symm, h, r, rfl, fun _ _ => rfl, fun _ _ => rfl⟩
          | exact s_retI ok rfl ⟨congrArg (fun z => some (Value.int z)) (if_neg (fun q => absurd q.2 (by omega))).symm, h, r, rfl, fun _ _ => rfl, fun _ _ => rfl⟩
