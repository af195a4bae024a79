/-! Questions that put another number in the plan -/
theorem pOK_put {p : Int → Int} (hp : pOK p) {i v : Int} (hv : (i = 1 ∧ 0 ≤ v ∧ v < 16) ∨ (i = 2 ∧ 0 ≤ v ∧ v ≤ 30) ∨ (i = 3 ∧ 1 ≤ v ∧ v ≤ 30) ∨ (i = 4 ∧ 0 ≤ v ∧ v ≤ 9) ∨ (i = 5 ∧ 0 ≤ v ∧ v ≤ 9) ∨ (7 ≤ i ∧ i < 11 ∧ 1 ≤ v ∧ v ≤ 90) ∨ (11 ≤ i ∧ i < 19 ∧ i % 2 = 1 ∧ 0 ≤ v ∧ v ≤ 300) ∨ (11 ≤ i ∧ i < 19 ∧ i % 2 = 0 ∧ 0 ≤ v ∧ v ≤ 9)) : pOK (zp p i v) := by
  obtain ⟨a0, a1, a2, a3, a4, a5, a6, a7, a8, a9, b0, b1, b2, b3, c1, c2, c3⟩ := hp
  refine ⟨?_, ?_, ?_, ?_, ?_, ?_, ?_, ?_, ?_, ?_, ?_, ?_, ?_, ?_, fun j j0 j1 => ?_, fun j j0 j1 => ?_, fun s s0 s1 => ?_⟩
  iterate 14 (unfold zp; split <;> omega)
  · have := c1 j j0 j1
    unfold zp
    split <;> omega
  · have := c2 j j0 j1
    unfold zp
    split <;> split <;> omega
  · have := c3 s s0 s1
    unfold pK pF pFr pTo pBa at *
    rw [zp_ne (by omega), zp_ne (by omega), zp_ne (by omega), zp_ne (by omega), zp_ne (by omega)]
    exact this
theorem ct_am {E : zE} {d : Nat} {k : Nat → Nat × Nat} {h : Nat → Int → Int} {r : Nat → Int → Option Nat} {l : Nat → Nat → Int64} {n : Nat} {p : Int → Int} {w dd : Int} (hd : dP h) (q : dD h p w dd) (e : p 6 = h 60 6) : zCT E d M_X12_arriveMany [.ref 59] (zJ (k, h, r, l, n)) 0 0 (zV (.int (iI (dMn p w dd))) (zJ (k, h, r, l, n))) := by
  have h0 := hd.1.2.2.2.2.2.2.2.2.2.2.2.2.1
  have h1 := hd.1.2.2.2.2.2.2.2.2.2.2.2.2.2.1
  rw [← q.Mn]
  exact ct_arriveMany hd.2.2.1 (by omega) (by omega)
theorem ct_mi {E : zE} {d : Nat} {k : Nat → Nat × Nat} {h : Nat → Int → Int} {r : Nat → Int → Option Nat} {l : Nat → Nat → Int64} {n : Nat} {p : Int → Int} {w dd : Int} (hd : dP h) (q : dD h p w dd) (e : p 6 = h 60 6) : zCT E (d + 1) M_X12_allMinutes [.ref 59] (zJ (k, h, r, l, n)) 0 0 (zV (.int (iI (dMi p w dd))) (zJ (k, h, r, l, n))) := by
  have h0 := hd.1.2.2.2.2.2.2.2.2.2.2.2.2.1
  have h1 := hd.1.2.2.2.2.2.2.2.2.2.2.2.2.2.1
  rw [← q.Mi]
  exact ct_allMinutes hd.2.2.1 (by omega) (by omega)
theorem ct_law {E : zE} {d : Nat} {k : Nat → Nat × Nat} {h : Nat → Int → Int} {r : Nat → Int → Option Nat} {l : Nat → Nat → Int64} {n : Nat} {p : Int → Int} {w dd : Int} (ep : h 60 = p) (ew : h 59 17 = w) (ed : h 59 18 = dd) (hd : dP h) (h2 : zb dd) {t : Int} (zt : zb t) : zCT E (d + 8) M_X12_law [.ref 59, .int (iI (t))] (zJ (k, h, r, l, n)) 0 0 (zVx (.int (iI (if 0 ≤ t ∧ t ≤ 30 then dMn (zp p 2 t) w dd - dMn p w dd else -1000000001))) (zG k r l n (dE h))) := by
  have ok := ok_X12_law
  refine zCT_of pn_X12_law (Nat.le_of_ble_eq_true rfl) ?_
  show zGo _ _ _ _ _ _ 0 ([some (.ref 59), some (.int (iI (t))), none], [], _, _, _)
  subst ep
  subst ew
  subst ed
  refine s_ldI1 ok rfl ?_
  refine s_ci ok rfl ?_
  refine s_ci ok rfl ?_
  refine s_callS ok rfl rfl rfl rfl (ct_isIn zt ⟨by omega, by omega⟩ ⟨by omega, by omega⟩) ?_
  refine s_if_eq ok rfl zif01 (fun c7 => ?_) (fun c7 => ?_)
  · refine s_ci ok rfl ?_
    refine s_retI ok rfl ⟨congrArg (fun z => some (Value.int (iI z))) (if_neg (fun q => zif_f c7 q)).symm, _, rfl, dE.rf hd⟩
  · have yt := zif_t c7
    refine s_ldA0 ok rfl ?_
    refine s_callVx ok rfl rfl rfl rfl rfl rfl (ct_manyNow (h := h) rfl rfl rfl hd h2) (fun σ15 hσ15 => ?_)
    obtain ⟨g15, rfl, hg15⟩ := hσ15
    obtain ⟨f15, q15⟩ := hg15
    refine s_stI2 ok rfl rfl ?_
    refine s_ldA0 ok rfl ?_
    refine s_ci ok rfl ?_
    refine s_ldI1 ok rfl ?_
    refine s_callVvx ok rfl rfl rfl rfl rfl rfl (ct_goesWith (h := g15) f15.e60 f15.e17 f15.e18 f15.2.2 h2 (by omega) (by omega) (pOK_put hd.1 (by omega))) (fun σ22 hσ22 => ?_)
    obtain ⟨g22, rfl, hg22⟩ := hσ22
    obtain ⟨f22, q22⟩ := hg22
    refine s_ldA0 ok rfl ?_
    refine s_callV ok rfl rfl rfl rfl rfl rfl (ct_am f22.2.2 q22 (by rw [zp_ne (by omega), f22.e60, f15.e60])) ?_
    refine s_ldI2 ok rfl ?_
    refine s_sub ok rfl ?_
    refine s_retI ok rfl ⟨congrArg (fun z => some (Value.int (iI z))) ((if_pos yt).symm), _, rfl, f15.tr f22⟩
/-- the first best of the numbers from 0: (the best, its value) -/
def sBL (B : Int → Int) : Nat → Int × Int
  | 0 => (0, -1)
  | c + 1 => if B c ≤ (sBL B c).2 then sBL B c else ((c : Int), B c)
theorem sBL_in {B : Int → Int} : ∀ c : Nat, (∀ m : Int, 0 ≤ m → m < c → 0 ≤ B m ∧ B m ≤ 8) → -1 ≤ (sBL B c).2 ∧ (sBL B c).2 ≤ 8
  | 0, _ => ⟨Int.le_refl _, by show (-1 : Int) ≤ 8; omega⟩
  | c + 1, hB => by
    have i := sBL_in c (fun m m0 m1 => hB m m0 (by omega))
    have j := hB c (by omega) (by omega)
    unfold sBL
    split
    · exact i
    · exact ⟨by show -1 ≤ B c; omega, j.2⟩
/-- the first best of the numbers V 0, V 1, ..: (the best, its value) -/
def sBI (C : Int → Int) (V : Nat → Int) : Nat → Int × Int
  | 0 => (V 0, 1000000000)
  | c + 1 => if (sBI C V c).2 ≤ C (V c) then sBI C V c else (V c, C (V c))
theorem sBI_in {C : Int → Int} {V : Nat → Int} : ∀ c : Nat, (∀ m : Nat, m < c → 0 ≤ C (V m) ∧ C (V m) ≤ 16000) → 0 ≤ (sBI C V c).2 ∧ (sBI C V c).2 ≤ 1000000000
  | 0, _ => ⟨by show (0 : Int) ≤ 1000000000; omega, Int.le_refl _⟩
  | c + 1, hB => by
    have i := sBI_in c (fun m m1 => hB m (by omega))
    have j := hB c (by omega)
    unfold sBI
    split
    · exact i
    · exact ⟨j.1, by show C (V c) ≤ _; omega⟩
theorem lp_bestLate {E : zE} {d : Nat} {k : Nat → Nat × Nat} {h : Nat → Int → Int} {r : Nat → Int → Option Nat} {l : Nat → Nat → Int64} {n : Nat} {Q : zQ} {p : Int → Int} {w dd : Int} (ep : h 60 = p) (ew : h 59 17 = w) (ed : h 59 18 = dd) (hd : dP h) (h2 : zb dd) (hQ : ∀ g, dE h g → Q (some (.int (iI (sBL (fun v => dMn (zp p 2 v) w dd) 31).1))) (zJ (k, g, r, l, n))) : ∀ c : Nat, ∀ (m : Nat) (g : Nat → Int → Int), dE h g → 31 < m + c → m ≤ 31 → zGo E (d + 8) M_X12_bestLate 0 0 Q 6 ([some (.ref 59), some (.int (iI ((sBL (fun v => dMn (zp p 2 v) w dd) m).1))), some (.int (iI ((sBL (fun v => dMn (zp p 2 v) w dd) m).2))), some (.int (iI ((m : Int))))], [], zJ (k, g, r, l, n), 0, 0) := by
  have ok := ok_X12_bestLate
  intro c
  induction c with
  | zero =>
    intros
    omega
  | succ c ih =>
    intro m g hE g1 g2
    subst ep
    subst ew
    subst ed
    have i60 := dE.e60 hE
    have p6 := hd.1.2.2.2.2.2.2.2.2.2.2.2.2.2.1
    have mr : ∀ v : Int, 0 ≤ v → v ≤ 30 → 0 ≤ dMn (zp (h 60) 2 v) (h 59 17) (h 59 18) ∧ dMn (zp (h 60) 2 v) (h 59 17) (h 59 18) ≤ 8 := fun v v0 v1 => by
      have z := dMn_in (w := h 59 17) (dd := h 59 18) (pOK_put hd.1 (i := 2) (v := v) (by omega))
      rw [zp_ne (by omega)] at z
      omega
    have a2 := sBL_in (B := (fun v => dMn (zp (h 60) 2 v) (h 59 17) (h 59 18))) m (fun v v0 v1 => mr v v0 (by omega))
    have e3 : sBL (fun v => dMn (zp (h 60) 2 v) (h 59 17) (h 59 18)) (m + 1) = if dMn (zp (h 60) 2 (m : Int)) (h 59 17) (h 59 18) ≤ (sBL (fun v => dMn (zp (h 60) 2 v) (h 59 17) (h 59 18)) m).2 then sBL (fun v => dMn (zp (h 60) 2 v) (h 59 17) (h 59 18)) m else ((m : Int), dMn (zp (h 60) 2 (m : Int)) (h 59 17) (h 59 18)) := rfl
    have hq : m = 31 → Q (some (.int (iI (sBL (fun v => dMn (zp (h 60) 2 v) (h 59 17) (h 59 18)) m).1))) (zJ (k, g, r, l, n)) := fun e => by rw [e]; exact hQ g hE
    generalize sBL (fun v => dMn (zp (h 60) 2 v) (h 59 17) (h 59 18)) m = q at *
    refine s_ldI3 ok rfl ?_
    refine s_ci ok rfl ?_
    refine s_c_gt ok rfl (by first | exact hb _ _ | exact ⟨by omega, by omega⟩) (by first | exact hb _ _ | exact ⟨by omega, by omega⟩) (fun c9 => ?_) (fun c9 => ?_)
    · refine s_ldI1 ok rfl ?_
      refine s_retI ok rfl (hq (by omega))
    · refine s_ldA0 ok rfl ?_
      refine s_ci ok rfl ?_
      refine s_ldI3 ok rfl ?_
      refine s_callVvx ok rfl rfl rfl rfl rfl rfl (ct_goesWith (h := g) i60 hE.e17 hE.e18 hE.2.2 h2 (by omega) (by omega) (pOK_put hd.1 (by omega))) (fun σ15 hσ15 => ?_)
      obtain ⟨g15, rfl, hg15⟩ := hσ15
      obtain ⟨f15, q15⟩ := hg15
      refine s_ldA0 ok rfl ?_
      refine s_callV ok rfl rfl rfl rfl rfl rfl (ct_am f15.2.2 q15 (by rw [zp_ne (by omega), f15.e60, i60])) ?_
      have z9 := mr m (by omega) (by omega)
      refine s_ldI2 ok rfl ?_
      refine s_c_gt ok rfl (by first | exact hb _ _ | exact ⟨by omega, by omega⟩) (by first | exact hb _ _ | exact ⟨by omega, by omega⟩) (fun c23 => ?_) (fun c23 => ?_)
      · refine s_ldI3 ok rfl ?_
        refine s_stI1 ok rfl rfl ?_
        refine s_ldA0 ok rfl ?_
        refine s_callV ok rfl rfl rfl rfl rfl rfl (ct_am f15.2.2 q15 (by rw [zp_ne (by omega), f15.e60, i60])) ?_
        refine s_stI2 ok rfl rfl ?_
        refine s_inc3 ok rfl rfl ?_
        refine s_goto ok rfl ?_
        have hh := ih (m + 1) g15 (hE.tr f15) (by omega) (by omega)
        rw [e3] at hh
        first | rw [if_pos (by omega)] at hh | rw [if_neg (by omega)] at hh
        exact hh
      · refine s_goto ok rfl ?_
        refine s_inc3 ok rfl rfl ?_
        refine s_goto ok rfl ?_
        have hh := ih (m + 1) g15 (hE.tr f15) (by omega) (by omega)
        rw [e3] at hh
        first | rw [if_pos (by omega)] at hh | rw [if_neg (by omega)] at hh
        exact hh
theorem ct_bestLate {E : zE} {d : Nat} {k : Nat → Nat × Nat} {h : Nat → Int → Int} {r : Nat → Int → Option Nat} {l : Nat → Nat → Int64} {n : Nat} {p : Int → Int} {w dd : Int} (ep : h 60 = p) (ew : h 59 17 = w) (ed : h 59 18 = dd) (hd : dP h) (h2 : zb dd) : zCT E (d + 8) M_X12_bestLate [.ref 59] (zJ (k, h, r, l, n)) 0 0 (zVx (.int (iI (sBL (fun v => dMn (zp p 2 v) w dd) 31).1)) (zG k r l n (dE h))) := by
  have ok := ok_X12_bestLate
  refine zCT_of pn_X12_bestLate (Nat.le_of_ble_eq_true rfl) ?_
  show zGo _ _ _ _ _ _ 0 ([some (.ref 59), none, none, none], [], _, _, _)
  subst ep
  subst ew
  subst ed
  refine s_ci ok rfl ?_
  refine s_stI1 ok rfl rfl ?_
  refine s_ci ok rfl ?_
  refine s_stI2 ok rfl rfl ?_
  refine s_ci ok rfl ?_
  refine s_stI3 ok rfl rfl ?_
  exact lp_bestLate (E := E) (d := d) (k := k) (r := r) (l := l) (n := n) (h := h) rfl rfl rfl hd h2 (Q := zVx (.int (iI (sBL (fun v => dMn (zp (h 60) 2 v) (h 59 17) (h 59 18)) 31).1)) (zG k r l n (dE h))) (fun g hE => ⟨rfl, g, rfl, hE⟩) 32 0 h (dE.rf hd) (by omega) (by omega)
theorem lp_bestIn {E : zE} {d : Nat} {k : Nat → Nat × Nat} {h : Nat → Int → Int} {r : Nat → Int → Option Nat} {l : Nat → Nat → Int64} {n : Nat} {Q : zQ} {p : Int → Int} {w dd : Int} (ep : h 60 = p) (ew : h 59 17 = w) (ed : h 59 18 = dd) (hd : dP h) (h2 : zb dd) {pl low high step : Int} {V : Nat → Int} {n9 : Nat} (l0 : 0 ≤ pl) (l1 : pl < 59) (l6 : ¬ pl = 6) (v0 : V 0 = low) (vs : ∀ m, V (m + 1) = V m + step) (vh : zb high) (vb : ∀ m, m ≤ n9 → zb (V m)) (v1 : ∀ m, m < n9 → V m ≤ high ∧ pOK (zp p pl (V m))) (v2 : high < V n9) (hQ : ∀ g, dE h g → Q (some (.int (iI (sBI (fun v => dMi (zp p pl v) w dd) V n9).1))) (zJ (k, g, r, l, n))) : ∀ c : Nat, ∀ (m : Nat) (g : Nat → Int → Int), dE h g → n9 < m + c → m ≤ n9 → zGo E (d + 8) M_X12_bestIn 0 0 Q 11 ([some (.ref 59), some (.int (iI (pl))), some (.int (iI (low))), some (.int (iI (high))), some (.int (iI (step))), some (.int (iI ((sBI (fun v => dMi (zp p pl v) w dd) V m).1))), some (.int (iI ((sBI (fun v => dMi (zp p pl v) w dd) V m).2))), some (.int (iI (V m)))], [], zJ (k, g, r, l, n), 0, 0) := by
  have ok := ok_X12_bestIn
  intro c
  induction c with
  | zero =>
    intros
    omega
  | succ c ih =>
    intro m g hE g1 g2
    subst ep
    subst ew
    subst ed
    have i60 := dE.e60 hE
    have mr : ∀ j : Nat, j < n9 → 0 ≤ dMi (zp (h 60) pl (V j)) (h 59 17) (h 59 18) ∧ dMi (zp (h 60) pl (V j)) (h 59 17) (h 59 18) ≤ 16000 := fun j j1 => dMi_in (v1 j j1).2 hd.2.2.2.2
    have a2 := sBI_in (C := (fun v => dMi (zp (h 60) pl v) (h 59 17) (h 59 18))) (V := V) m (fun j j1 => mr j (by omega))
    have zV0 := vb m g2
    have vsm := vs m
    have hlast : ¬ m = n9 → m < n9 := fun e => by omega
    have hlt : m < n9 → V m ≤ high := fun e => (v1 m e).1
    have heq : m = n9 → high < V m := fun e => by rw [e]; exact v2
    have e3 : sBI (fun v => dMi (zp (h 60) pl v) (h 59 17) (h 59 18)) V (m + 1) = if (sBI (fun v => dMi (zp (h 60) pl v) (h 59 17) (h 59 18)) V m).2 ≤ dMi (zp (h 60) pl (V m)) (h 59 17) (h 59 18) then sBI (fun v => dMi (zp (h 60) pl v) (h 59 17) (h 59 18)) V m else (V m, dMi (zp (h 60) pl (V m)) (h 59 17) (h 59 18)) := rfl
    have hq : m = n9 → Q (some (.int (iI (sBI (fun v => dMi (zp (h 60) pl v) (h 59 17) (h 59 18)) V m).1))) (zJ (k, g, r, l, n)) := fun e => by rw [e]; exact hQ g hE
    generalize sBI (fun v => dMi (zp (h 60) pl v) (h 59 17) (h 59 18)) V m = q at *
    refine s_ldI7 ok rfl ?_
    refine s_ldI3 ok rfl ?_
    refine s_c_gt ok rfl zV0 vh (fun c14 => ?_) (fun c14 => ?_)
    · refine s_ldI5 ok rfl ?_
      refine s_retI ok rfl (hq (Classical.byContradiction fun e => by have := hlt (hlast e); omega))
    · have mlt : m < n9 := hlast (fun e => by have := heq e; omega)
      refine s_ldA0 ok rfl ?_
      refine s_ldI1 ok rfl ?_
      refine s_ldI7 ok rfl ?_
      refine s_callVvx ok rfl rfl rfl rfl rfl rfl (ct_goesWith (h := g) i60 hE.e17 hE.e18 hE.2.2 h2 l0 l1 (v1 m (by omega)).2) (fun σ21 hσ21 => ?_)
      obtain ⟨g21, rfl, hg21⟩ := hσ21
      obtain ⟨f21, q21⟩ := hg21
      refine s_ldA0 ok rfl ?_
      refine s_callV ok rfl rfl rfl rfl rfl rfl (ct_mi f21.2.2 q21 (by rw [zp_ne (fun e => l6 e.symm), f21.e60, i60])) ?_
      have z9 := mr m mlt
      refine s_ldI6 ok rfl ?_
      refine s_c_lt ok rfl (by first | exact hb _ _ | exact ⟨by omega, by omega⟩) (by first | exact hb _ _ | exact ⟨by omega, by omega⟩) (fun c30 => ?_) (fun c30 => ?_)
      · refine s_ldI7 ok rfl ?_
        refine s_stI5 ok rfl rfl ?_
        refine s_ldA0 ok rfl ?_
        refine s_callV ok rfl rfl rfl rfl rfl rfl (ct_mi f21.2.2 q21 (by rw [zp_ne (fun e => l6 e.symm), f21.e60, i60])) ?_
        refine s_stI6 ok rfl rfl ?_
        refine s_ldI7 ok rfl ?_
        refine s_ldI4 ok rfl ?_
        refine s_add ok rfl ?_
        refine s_stI7 ok rfl rfl ?_
        refine s_goto ok rfl ?_
        have hh := ih (m + 1) g21 (hE.tr f21) (by omega) (by omega)
        rw [e3, vsm] at hh
        first | rw [if_pos (by omega)] at hh | rw [if_neg (by omega)] at hh
        exact hh
      · refine s_goto ok rfl ?_
        refine s_ldI7 ok rfl ?_
        refine s_ldI4 ok rfl ?_
        refine s_add ok rfl ?_
        refine s_stI7 ok rfl rfl ?_
        refine s_goto ok rfl ?_
        have hh := ih (m + 1) g21 (hE.tr f21) (by omega) (by omega)
        rw [e3, vsm] at hh
        first | rw [if_pos (by omega)] at hh | rw [if_neg (by omega)] at hh
        exact hh
theorem ct_bestIn {E : zE} {d : Nat} {k : Nat → Nat × Nat} {h : Nat → Int → Int} {r : Nat → Int → Option Nat} {l : Nat → Nat → Int64} {n : Nat} {p : Int → Int} {w dd : Int} (ep : h 60 = p) (ew : h 59 17 = w) (ed : h 59 18 = dd) (hd : dP h) (h2 : zb dd) {pl low high step : Int} {V : Nat → Int} {n9 : Nat} (l0 : 0 ≤ pl) (l1 : pl < 59) (l6 : ¬ pl = 6) (v0 : V 0 = low) (vs : ∀ m, V (m + 1) = V m + step) (vh : zb high) (vb : ∀ m, m ≤ n9 → zb (V m)) (v1 : ∀ m, m < n9 → V m ≤ high ∧ pOK (zp p pl (V m))) (v2 : high < V n9) : zCT E (d + 8) M_X12_bestIn [.ref 59, .int (iI (pl)), .int (iI (low)), .int (iI (high)), .int (iI (step))] (zJ (k, h, r, l, n)) 0 0 (zVx (.int (iI (sBI (fun v => dMi (zp p pl v) w dd) V n9).1)) (zG k r l n (dE h))) := by
  have ok := ok_X12_bestIn
  refine zCT_of pn_X12_bestIn (Nat.le_of_ble_eq_true rfl) ?_
  show zGo _ _ _ _ _ _ 0 ([some (.ref 59), some (.int (iI (pl))), some (.int (iI (low))), some (.int (iI (high))), some (.int (iI (step))), none, none, none], [], _, _, _)
  subst ep
  subst ew
  subst ed
  subst v0
  refine s_ldI2 ok rfl ?_
  refine s_stI5 ok rfl rfl ?_
  refine s_ci ok rfl ?_
  refine s_stI6 ok rfl rfl ?_
  refine s_ldI2 ok rfl ?_
  refine s_stI7 ok rfl rfl ?_
  exact lp_bestIn (E := E) (d := d) (k := k) (r := r) (l := l) (n := n) (h := h) rfl rfl rfl hd h2 l0 l1 l6 rfl vs vh vb v1 v2 (Q := zVx (.int (iI (sBI (fun v => dMi (zp (h 60) pl v) (h 59 17) (h 59 18)) V n9).1)) (zG k r l n (dE h))) (fun g hE => ⟨rfl, g, rfl, hE⟩) (n9 + 1) 0 h (dE.rf hd) (by omega) (by omega)
theorem ct_bestGap {E : zE} {d : Nat} {k : Nat → Nat × Nat} {h : Nat → Int → Int} {r : Nat → Int → Option Nat} {l : Nat → Nat → Int64} {n : Nat} {p : Int → Int} {w dd : Int} (ep : h 60 = p) (ew : h 59 17 = w) (ed : h 59 18 = dd) (hd : dP h) (h2 : zb dd) : zCT E (d + 9) M_X12_bestGap [.ref 59] (zJ (k, h, r, l, n)) 0 0 (zVx (.int (iI (sBI (fun v => dMi (zp p 3 v) w dd) (fun m => 1 + (m : Int)) 30).1)) (zG k r l n (dE h))) := by
  have ok := ok_X12_bestGap
  refine zCT_of pn_X12_bestGap (Nat.le_of_ble_eq_true rfl) ?_
  show zGo _ _ _ _ _ _ 0 ([some (.ref 59)], [], _, _, _)
  subst ep
  subst ew
  subst ed
  refine s_ldA0 ok rfl ?_
  refine s_ci ok rfl ?_
  refine s_ci ok rfl ?_
  refine s_ci ok rfl ?_
  refine s_ci ok rfl ?_
  refine s_callVx ok rfl rfl rfl rfl rfl rfl (ct_bestIn (h := h) (V := fun m => 1 + (m : Int)) (n9 := 30) rfl rfl rfl hd h2 (by omega) (by omega) (by omega) rfl (fun m => by omega) ⟨by omega, by omega⟩ (fun m _ => ⟨by omega, by omega⟩) (fun m _ => ⟨by omega, pOK_put hd.1 (by omega)⟩) (by omega)) (fun σ6 hσ6 => ?_)
  obtain ⟨g6, rfl, hg6⟩ := hσ6
  refine s_retI ok rfl ⟨rfl, _, rfl, hg6⟩
