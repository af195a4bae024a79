/-! the class: day, whole -/
theorem sWR_0 {h : Nat → Int → Int} {t : Int} : (¬ sWR h t (-1) = 0 → sWR h t 0 = sWR h t (-1)) ∧ (sWR h t (-1) = 0 → sWR h t 0 = if h 83 t = 0 then 0 else -12) := by
  unfold sWR
  by_cases a : 0 ≤ t ∧ t < 8
  · have na : ¬ ¬ (0 ≤ t ∧ t < 8) := fun q => q a
    rw [if_neg na, if_neg na]
    by_cases b : h 80 t = 0
    · rw [if_pos b, if_pos b]
      exact ⟨fun _ => rfl, fun q => by omega⟩
    · rw [if_neg b, if_neg b]
      by_cases c : h 80 t = 2
      · have nc : ¬ ¬ h 80 t = 2 := fun q => q c
        rw [if_neg nc, if_neg nc]
        refine ⟨fun q => absurd (if_neg (by omega)) q, fun _ => ?_⟩
        by_cases e : h 83 t = 0
        · rw [if_pos e, if_neg (by omega)]
        · rw [if_neg e, if_pos ⟨by omega, e⟩]
      · rw [if_pos c, if_pos c]
        exact ⟨fun _ => rfl, fun q => by omega⟩
  · rw [if_pos a, if_pos a]
    exact ⟨fun _ => rfl, fun q => by omega⟩
theorem fB_less {X : Int → Int} {sz : Int} : ∀ {c : Nat} {a : Int}, 0 ≤ a → sz < a + 3 * (c : Int) → fB X sz (c + 1) a = -1 → fB X sz c a = -1
  | 0, a, _, _, _ => rfl
  | c + 1, a, a0, h, e => by
    have e1 : fB X sz (c + 1 + 1) a = if fB1 X a = -1 then (if a + (dgs (X a) : Int) + 2 < sz then fB X sz (c + 1) (a + (dgs (X a) : Int) + 2) else -1) else fB1 X a := rfl
    have e2 : fB X sz (c + 1) a = if fB1 X a = -1 then (if a + (dgs (X a) : Int) + 2 < sz then fB X sz c (a + (dgs (X a) : Int) + 2) else -1) else fB1 X a := rfl
    rw [e1] at e
    rw [e2]
    by_cases q : fB1 X a = -1
    · rw [if_pos q] at e ⊢
      by_cases z : a + (dgs (X a) : Int) + 2 < sz
      · rw [if_pos z] at e ⊢
        have d1 : ¬ dgs (X a) = 0 := fun y => by
          unfold fB1 at q
          rw [if_pos y] at q
          omega
        exact fB_less (by omega) (by omega) e
      · rw [if_neg z]
    · rw [if_neg q] at e
      exact absurd e q
theorem ct_day11 {E : zE} {d : Nat} {k : Nat → Nat × Nat} {h : Nat → Int → Int} {r : Nat → Int → Option Nat} {l : Nat → Nat → Int64} {n : Nat} {p : Int → Int} (hs : pS p) (hR : cR 4 5 6 7 8 9 10 11 12 13 k h r n p (-4)) (hc : cSh k h r n) (hS : cS k h) (hn : 87 ≤ n) {t : Int} (zt : zb t) : zCT E (d + 7) M_X11_day [.ref 3, .int (iI (t))] (zJ (k, h, r, l, n)) 34 68 (zVx (.int (iI (if sWR h t 0 = 0 then (if fB (tc (fun j => h 85 (100 * t + j)) (h 84 t)) (h 84 t) 102 0 = -1 then (if (tl (tc (fun j => h 85 (100 * t + j)) (h 84 t)) (h 84 t) 101 0 p).1 = 0 then cN (tc (fun j => h 85 (100 * t + j)) (h 84 t)) (h 84 t) 102 0 else (tl (tc (fun j => h 85 (100 * t + j)) (h 84 t)) (h 84 t) 101 0 p).1) else -1000 - fB (tc (fun j => h 85 (100 * t + j)) (h 84 t)) (h 84 t) 102 0) else sWR h t 0))) (fun s => ∃ k2 g r2 l2 n2, s = zJ (k2, g, r2, l2, n2) ∧ (n ≤ n2 ∧ n2 ≤ n + 34) ∧ (∀ q, q < n → k2 q = k q ∧ l2 q = l q ∧ ((q < 4 ∨ q = 14 ∨ 24 < q) → g q = h q) ∧ (¬ q = 16 → ¬ q = 5 → r2 q = r q)) ∧ cR 4 5 6 7 8 9 10 11 12 13 k2 g r2 n2 (if sWR h t 0 = 0 ∧ fB (tc (fun j => h 85 (100 * t + j)) (h 84 t)) (h 84 t) 102 0 = -1 ∧ (tl (tc (fun j => h 85 (100 * t + j)) (h 84 t)) (h 84 t) 101 0 p).1 = 0 then (tl (tc (fun j => h 85 (100 * t + j)) (h 84 t)) (h 84 t) 101 0 p).2 else p) (-4))) := by
  have ok := ok_X11_day
  refine zCT_of pn_X11_day (Nat.le_of_ble_eq_true rfl) ?_
  show zGo _ _ _ _ _ _ 0 ([some (.ref 3), some (.int (iI (t))), none, none, none, none, none], [], _, _, _)
  have hp := hs.1
  have hft := hs.2.2.2.1
  have p60 := hp.2.2.2.2.2.2.2.2.2.2.2.2.1
  have p68 := hp.2.2.2.2.2.2.2.2.2.2.2.2.2.1
  have p00 := hp.1
  have p04 := hp.2.1
  have hf : ∀ q : Int, 0 ≤ q → q < p 6 → ¬ pFr p q = 4 := fun q q0 q1 => by have := pOf_gt hp q0 (by omega) (hft q q0 q1); omega
  refine s_ldA0 ok rfl ?_
  refine s_ldI1 ok rfl ?_
  refine s_callV ok rfl rfl rfl rfl rfl rfl (ct_rRow hc zt) ?_
  refine s_stI2 ok rfl rfl ?_
  refine s_ldI2 ok rfl ?_
  refine s_if_eq ok rfl sWR_z (fun c7 => ?_) (fun c7 => ?_)
  · obtain ⟨⟨t0, t1⟩, h80, r5, w, r6, hw, ⟨w0, w1⟩, ⟨s0, s1⟩, hz, he, hrg⟩ := cSh_w hc c7
    have eL : ((h 84 t).toNat : Int) = h 84 t := by omega
    have e0 := (sWR_0 (h := h) (t := t)).2 c7
    refine s_ldA0 ok rfl ?_
    refine s_getF ok rfl rfl rfl rfl ?_
    refine s_ldI1 ok rfl ?_
    refine s_aald ok rfl (by exact rfl) (by exact rfl) (by exact rfl) (by omega) (by omega) r6 ?_
    refine s_stA3 ok rfl rfl ?_
    refine s_ldA3 ok rfl ?_
    refine s_getJ 0 ok rfl hw.1 rfl rfl ?_
    rw [hw.2.1]
    refine s_if_eq ok rfl ⟨by have := hw.2.2.2.2.2; omega, by have := hw.2.2.2.2.2; omega⟩ (fun c23 => ?_) (fun c23 => ?_)
    · rw [if_pos c23] at e0
      have XE : tc (h (w + 1)) (h 84 t).toNat = (tc (fun j => h 85 (100 * t + j)) (h 84 t)) := by
        funext j
        unfold tc
        by_cases q : 0 ≤ j ∧ j < h 84 t
        · rw [if_pos q, if_pos ⟨q.1, by omega⟩]
          exact he j q.1 q.2
        · rw [if_neg q, if_neg (fun y => q ⟨y.1, by omega⟩)]
      have hy : ∀ j : Int, -128 ≤ tc (h (w + 1)) (h 84 t).toNat j ∧ tc (h (w + 1)) (h 84 t).toNat j ≤ 127 := fun j => by
        rw [XE]
        unfold tc
        split
        · next q => exact hrg c23 j q.1 q.2
        · omega
      have hbad := ct_badByte (E := E) (d := d + 4) (k := k) (h := h) (r := r) (l := l) (n := n) hw hy (by omega)
      rw [XE, eL] at hbad
      have fin := fB_in (X := (tc (fun j => h 85 (100 * t + j)) (h 84 t))) (sz := h 84 t) 102 0 (by omega)
      refine s_ldA3 ok rfl ?_
      refine s_callS ok rfl rfl rfl rfl (hbad) ?_
      refine s_stI4 ok rfl rfl ?_
      refine s_ldI4 ok rfl ?_
      refine s_if_lt ok rfl ⟨by omega, by omega⟩ (fun c37 => ?_) (fun c37 => ?_)
      · refine s_ldA0 ok rfl ?_
        refine s_getF ok rfl rfl rfl rfl ?_
        refine s_ldA0 ok rfl ?_
        refine s_getF ok rfl rfl rfl rfl ?_
        refine s_callVvx ok rfl rfl rfl rfl rfl rfl (ct_become15_4 (d := d + 5) hR (by rw [cnP_4]; omega) p04) (fun σ55 hσ55 => ?_)
        obtain ⟨g55, r55, rfl, f55, i55, hQ55⟩ := hσ55
        refine s_ci ok rfl ?_
        refine s_stI5 ok rfl rfl ?_
        refine s_ci ok rfl ?_
        refine s_stI6 ok rfl rfl ?_
        have eB : fB (tc (fun j => h 85 (100 * t + j)) (h 84 t)) (h 84 t) 102 0 = -1 := by omega
        have sz0 : 0 < h 84 t := by
          by_cases q : h 84 t ≤ 0
          · exfalso
            have x0 : (tc (fun j => h 85 (100 * t + j)) (h 84 t)) 0 = 0 := if_neg (by omega)
            have eF : fB (tc (fun j => h 85 (100 * t + j)) (h 84 t)) (h 84 t) (101 + 1) 0 = if fB1 (tc (fun j => h 85 (100 * t + j)) (h 84 t)) 0 = -1 then (if 0 + (dgs ((tc (fun j => h 85 (100 * t + j)) (h 84 t)) 0) : Int) + 2 < h 84 t then fB (tc (fun j => h 85 (100 * t + j)) (h 84 t)) (h 84 t) 101 (0 + (dgs ((tc (fun j => h 85 (100 * t + j)) (h 84 t)) 0) : Int) + 2) else -1) else fB1 (tc (fun j => h 85 (100 * t + j)) (h 84 t)) 0 := rfl
            have e1 : fB1 (tc (fun j => h 85 (100 * t + j)) (h 84 t)) 0 = 0 := by
              unfold fB1
              rw [x0]
              exact if_pos rfl
            rw [e1, if_neg (by omega)] at eF
            have : fB (tc (fun j => h 85 (100 * t + j)) (h 84 t)) (h 84 t) 102 0 = 0 := eF
            omega
          · omega
        have K := lp_day (E := E) (d := d) (k := k) (h := h) (r := r) (l := l) (n := n) hs hR hS hn (t := t) hw w0 w1 (by omega) hy (V9 := if (tl (tc (fun j => h 85 (100 * t + j)) (h 84 t)) (h 84 t) 101 0 p).1 = 0 then cN (tc (fun j => h 85 (100 * t + j)) (h 84 t)) (h 84 t) 102 0 else (tl (tc (fun j => h 85 (100 * t + j)) (h 84 t)) (h 84 t) 101 0 p).1) (P9 := if (tl (tc (fun j => h 85 (100 * t + j)) (h 84 t)) (h 84 t) 101 0 p).1 = 0 then (tl (tc (fun j => h 85 (100 * t + j)) (h 84 t)) (h 84 t) 101 0 p).2 else p) (U2 := some (.int (iI (sWR h t (-1))))) (U4 := some (.int (iI (fB (tc (fun j => h 85 (100 * t + j)) (h 84 t)) (h 84 t) 102 0)))) rfl rfl 101 0 0 p k g55 r55 l n 34 68 ⟨by omega, by omega⟩ (by omega) (by omega) (by omega) ⟨Nat.le_refl _, by omega⟩ (fun q hq => ⟨rfl, rfl, fun y => f55 q y, fun y => i55 q y⟩) hQ55 hs (fun q => ?_) ?_ ?_
        · rw [if_pos e0, if_pos eB]
          by_cases z : (tl (tc (fun j => h 85 (100 * t + j)) (h 84 t)) (h 84 t) 101 0 p).1 = 0
          · rw [if_pos z] at K
            rw [if_pos z, if_pos ⟨e0, eB, z⟩]
            rw [if_pos z] at K
            exact K
          · rw [if_neg z] at K
            rw [if_neg z, if_neg (fun y => z y.2.2)]
            rw [if_neg z] at K
            exact K
        · rw [XE, eL]
          have z := eB
          have eF : fB (tc (fun j => h 85 (100 * t + j)) (h 84 t)) (h 84 t) (101 + 1) 0 = if fB1 (tc (fun j => h 85 (100 * t + j)) (h 84 t)) 0 = -1 then (if 0 + (dgs ((tc (fun j => h 85 (100 * t + j)) (h 84 t)) 0) : Int) + 2 < h 84 t then fB (tc (fun j => h 85 (100 * t + j)) (h 84 t)) (h 84 t) 101 (0 + (dgs ((tc (fun j => h 85 (100 * t + j)) (h 84 t)) 0) : Int) + 2) else -1) else fB1 (tc (fun j => h 85 (100 * t + j)) (h 84 t)) 0 := rfl
          exact fB_less (by omega) (by omega) z
        · rw [XE, eL, if_pos sz0, Int.zero_add]
        · rw [XE, eL]
          exact ⟨fun z => if_pos z, fun z => if_neg z⟩
      · refine s_ci ok rfl ?_
        refine s_ldI4 ok rfl ?_
        refine s_sub ok rfl ?_
        exact s_retI ok rfl ⟨congrArg (fun z => some (Value.int (iI z))) (by rw [if_pos e0, if_neg (by omega)]), k, h, r, l, n, rfl, ⟨Nat.le_refl _, by omega⟩, fun q _ => ⟨rfl, rfl, fun _ => rfl, fun _ _ => rfl⟩, by rw [if_neg (fun q => by omega)]; exact hR⟩
    · refine s_ci ok rfl ?_
      rw [if_neg c23] at e0
      exact s_retI ok rfl ⟨congrArg (fun z => some (Value.int (iI z))) (by rw [e0]; exact (if_neg (by omega)).symm), k, h, r, l, n, rfl, ⟨Nat.le_refl _, by omega⟩, fun q _ => ⟨rfl, rfl, fun _ => rfl, fun _ _ => rfl⟩, by rw [if_neg (fun q => by omega)]; exact hR⟩
  · refine s_ldI2 ok rfl ?_
    have e1 := (sWR_0 (h := h) (t := t)).1 c7
    exact s_retI ok rfl ⟨congrArg (fun z => some (Value.int (iI z))) (by rw [e1, if_neg c7]), k, h, r, l, n, rfl, ⟨Nat.le_refl _, by omega⟩, fun q _ => ⟨rfl, rfl, fun _ => rfl, fun _ _ => rfl⟩, by rw [if_neg (fun q => c7 (e1.symm.trans q.1))]; exact hR⟩
