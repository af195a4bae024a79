/-! the class: day, the statements one by one -/
theorem day_fr {k k2 : Nat → Nat × Nat} {h g : Nat → Int → Int} {r r2 : Nat → Int → Option Nat} {l l2 : Nat → Nat → Int64} {n n2 : Nat} {p : Int → Int} (hp : pOK p) (hR : cR 4 5 6 7 8 9 10 11 12 13 k h r n p (-4)) (hn : 87 ≤ n) (nn : n ≤ n2) (f : (∀ q, q < n → k2 q = k q ∧ l2 q = l q ∧ ((q < 15 ∨ 24 < q) → g q = h q) ∧ (¬ q = 16 → r2 q = r q))) : cR 4 5 6 7 8 9 10 11 12 13 k2 g r2 n2 p (-4) ∧ (∀ q, q < n → k2 q = k q ∧ l2 q = l q ∧ ((q < 4 ∨ q = 14 ∨ 24 < q) → g q = h q) ∧ (¬ q = 16 → ¬ q = 5 → r2 q = r q)) :=
  ⟨cR_gen hR (by rw [cnP_4]; exact hp.2.2.2.2.2.2.2.2.2.2.2.2.2.1) ((f 4 (by omega)).2.2.1 (by omega)) ((f 6 (by omega)).2.2.1 (by omega)) ((f 7 (by omega)).2.2.1 (by omega)) ((f 8 (by omega)).2.2.1 (by omega)) ((f 9 (by omega)).2.2.1 (by omega)) ((f 10 (by omega)).2.2.1 (by omega)) ((f 11 (by omega)).2.2.1 (by omega)) ((f 12 (by omega)).2.2.1 (by omega)) ((f 13 (by omega)).2.2.1 (by omega)) ((f 5 (by omega)).2.2.2 (by omega)) (fun v hv => (f v hv).1) (fun v hv q => (f v hv).2.2.1 (by omega)) nn,
   fun q hq => ⟨(f q hq).1, (f q hq).2.1, fun a => (f q hq).2.2.1 (by omega), fun a _ => (f q hq).2.2.2 a⟩⟩
theorem cS_fr {k k2 : Nat → Nat × Nat} {h g : Nat → Int → Int} (c : cS k h) (k1 : k2 1 = k 1) (k22 : k2 2 = k 2) (h1 : g 1 = h 1) (h2 : g 2 = h 2) : cS k2 g := by
  unfold cS
  rw [k1, k22, h1, h2]
  exact c
theorem rw_up9 {k k3 : Nat → Nat × Nat} {h g3 : Nat → Int → Int} {r r3 : Nat → Int → Option Nat} {l l3 : Nat → Nat → Int64} {n n3 w L : Nat} {so : Int} (hw : rw_ k h r w (w + 1) L so) (nn : n ≤ n3) (f : ∀ a, a < n → k3 a = k a ∧ l3 a = l a ∧ ((a < 15 ∨ 24 < a) → g3 a = h a) ∧ (¬ a = 16 → r3 a = r a)) (w0 : 87 ≤ w) (w1 : w + 1 < n) : rw_ k3 g3 r3 w (w + 1) L so := by
  obtain ⟨y1, y2, y3, y4, y5⟩ := hw
  refine ⟨(zkF_eq (f w (by omega)).1).trans y1, by rw [(f w (by omega)).2.2.1 (by omega)]; exact y2, ?_, (zkF_eq (f (w + 1) w1).1).trans y4, y5⟩
  have : zrF r3 w 1 = zrF r w 1 := by
    unfold zrF
    rw [(f w (by omega)).2.2.2 (by omega)]
  exact this.trans y3
theorem lp_day {E : zE} {d : Nat} {k : Nat → Nat × Nat} {h : Nat → Int → Int} {r : Nat → Int → Option Nat} {l : Nat → Nat → Int64} {n : Nat} {p : Int → Int} (hs : pS p) (hR : cR 4 5 6 7 8 9 10 11 12 13 k h r n p (-4)) (hS : cS k h) (hn : 87 ≤ n) {t : Int} {w L : Nat} {so : Int} (hw : rw_ k h r w (w + 1) L so) (w0 : 87 ≤ w) (w1 : w + 1 < n) (l1 : L ≤ 100) (hy : ∀ j : Int, -128 ≤ tc (h (w + 1)) L j ∧ tc (h (w + 1)) L j ≤ 127) {V9 : Int} {P9 : Int → Int} {U2 U4 : Option Value} (u2 : znl U2 = true) (u4 : znl U4 = true) : ∀ c : Nat, ∀ (a s9 : Int) (q9 : Int → Int) (k2 : Nat → Nat × Nat) (g : Nat → Int → Int) (r2 : Nat → Int → Option Nat) (l2 : Nat → Nat → Int64) (n2 bc bs : Nat), (0 ≤ a ∧ a ≤ 200) → (L : Int) < a + c → (102 - a) / 3 ≤ bc → 2 * ((102 - a) / 3) ≤ bs → (n ≤ n2 ∧ n2 + bc ≤ n + 34) → (∀ q, q < n → k2 q = k q ∧ l2 q = l q ∧ ((q < 15 ∨ 24 < q) → g q = h q) ∧ (¬ q = 16 → r2 q = r q)) → cR 15 16 17 18 19 20 21 22 23 24 k2 g r2 n2 q9 (-4) → pS q9 → (a < (L : Int) → fB (tc (h (w + 1)) L) (L : Int) c a = -1) → V9 = (if a < (L : Int) then (if (tl (tc (h (w + 1)) L) (L : Int) c a q9).1 = 0 then s9 + cN (tc (h (w + 1)) L) (L : Int) (c + 1) a else (tl (tc (h (w + 1)) L) (L : Int) c a q9).1) else s9) → ((tl (tc (h (w + 1)) L) (L : Int) c a q9).1 = 0 → P9 = (tl (tc (h (w + 1)) L) (L : Int) c a q9).2) ∧ (¬ (tl (tc (h (w + 1)) L) (L : Int) c a q9).1 = 0 → P9 = p) → zGo E (d + 7) M_X11_day 34 68 (zVx (.int (iI V9)) (fun s => ∃ k2 g r2 l2 n2, s = zJ (k2, g, r2, l2, n2) ∧ (n ≤ n2 ∧ n2 ≤ n + 34) ∧ (∀ q, q < n → k2 q = k q ∧ l2 q = l q ∧ ((q < 4 ∨ q = 14 ∨ 24 < q) → g q = h q) ∧ (¬ q = 16 → ¬ q = 5 → r2 q = r q)) ∧ cR 4 5 6 7 8 9 10 11 12 13 k2 g r2 n2 (P9) (-4))) 64 ([some (.ref 3), some (.int (iI (t))), U2, some (.ref w), U4, some (.int (iI (s9))), some (.int (iI (a)))], [], zJ (k2, g, r2, l2, n2), bc, bs) := by
  have ok := ok_X11_day
  intro c
  induction c with
  | zero =>
    intro a s9 q9 k2 g r2 l2 n2 bc bs ⟨a0, a200⟩ g1 b1 b2 ⟨n1, m1⟩ f hR9 hS9 hB hV hP
    have hp := hs.1
    have hft := hs.2.2.2.1
    have p60 := hp.2.2.2.2.2.2.2.2.2.2.2.2.1
    have p68 := hp.2.2.2.2.2.2.2.2.2.2.2.2.2.1
    have p00 := hp.1
    have p04 := hp.2.1
    have hf : ∀ q : Int, 0 ≤ q → q < p 6 → ¬ pFr p q = 4 := fun q q0 q1 => by have := pOf_gt hp q0 (by omega) (hft q q0 q1); omega
    have gw : g (w + 1) = h (w + 1) := (f (w + 1) w1).2.2.1 (by omega)
    have hw9 : rw_ k2 g r2 w (w + 1) L so := by
      obtain ⟨y1, y2, y3, y4, y5⟩ := hw
      refine ⟨(zkF_eq (f w (by omega)).1).trans y1, by rw [(f w (by omega)).2.2.1 (by omega)]; exact y2, ?_, (zkF_eq (f (w + 1) w1).1).trans y4, y5⟩
      have : zrF r2 w 1 = zrF r w 1 := by
        unfold zrF
        rw [(f w (by omega)).2.2.2 (by omega)]
      exact this.trans y3
    have ex : tc (g (w + 1)) L = tc (h (w + 1)) L := by rw [gw]
    refine s_ldI6 ok rfl ?_
    refine s_ldA3 ok rfl ?_
    refine s_callV ok rfl rfl rfl rfl hw9.1 rfl (ct_rsize hw9) ?_
    refine s_c_ge ok rfl (by exact (by unfold zb; omega)) ⟨by omega, by omega⟩ (fun c70 => ?_) (fun c70 => ?_)
    · refine s_ldA0 ok rfl ?_
      refine s_getF ok rfl rfl rfl rfl ?_
      refine s_ldA0 ok rfl ?_
      refine s_getF ok rfl rfl rfl rfl ?_
      refine s_callVvx ok rfl rfl rfl rfl rfl rfl (ct_become4_15 (d := d + 5) hR9 (by rw [cnP_4]; exact hS9.1.2.2.2.2.2.2.2.2.2.2.2.2.2.1) hS9.1.2.1) (fun σ123 hσ123 => ?_)
      obtain ⟨g4, r4, rfl, f4, i4, hQ⟩ := hσ123
      refine s_ldI5 ok rfl ?_
      rw [if_neg (by omega)] at hV
      refine s_retI ok rfl ⟨congrArg (fun z => some (Value.int (iI z))) hV.symm, k2, g4, r4, l2, n2, rfl, ⟨by omega, by omega⟩, fun q hq => ⟨(f q hq).1, (f q hq).2.1, fun y => (f4 q (by omega)).trans ((f q hq).2.2.1 (by omega)), fun y y2 => (i4 q y2).trans ((f q hq).2.2.2 y)⟩, ?_⟩
      have z := hP.1 (by rw [tl_end (by omega)])
      rw [tl_end (by omega)] at z
      rw [z]
      exact hQ
    · omega
  | succ c0 ih =>
    intro a s9 q9 k2 g r2 l2 n2 bc bs ⟨a0, a200⟩ g1 b1 b2 ⟨n1, m1⟩ f hR9 hS9 hB hV hP
    have hp := hs.1
    have hft := hs.2.2.2.1
    have p60 := hp.2.2.2.2.2.2.2.2.2.2.2.2.1
    have p68 := hp.2.2.2.2.2.2.2.2.2.2.2.2.2.1
    have p00 := hp.1
    have p04 := hp.2.1
    have hf : ∀ q : Int, 0 ≤ q → q < p 6 → ¬ pFr p q = 4 := fun q q0 q1 => by have := pOf_gt hp q0 (by omega) (hft q q0 q1); omega
    have gw : g (w + 1) = h (w + 1) := (f (w + 1) w1).2.2.1 (by omega)
    have hw9 : rw_ k2 g r2 w (w + 1) L so := by
      obtain ⟨y1, y2, y3, y4, y5⟩ := hw
      refine ⟨(zkF_eq (f w (by omega)).1).trans y1, by rw [(f w (by omega)).2.2.1 (by omega)]; exact y2, ?_, (zkF_eq (f (w + 1) w1).1).trans y4, y5⟩
      have : zrF r2 w 1 = zrF r w 1 := by
        unfold zrF
        rw [(f w (by omega)).2.2.2 (by omega)]
      exact this.trans y3
    have ex : tc (g (w + 1)) L = tc (h (w + 1)) L := by rw [gw]
    refine s_ldI6 ok rfl ?_
    refine s_ldA3 ok rfl ?_
    refine s_callV ok rfl rfl rfl rfl hw9.1 rfl (ct_rsize hw9) ?_
    refine s_c_ge ok rfl ⟨by omega, by omega⟩ ⟨by omega, by omega⟩ (fun c70 => ?_) (fun c70 => ?_)
    · refine s_ldA0 ok rfl ?_
      refine s_getF ok rfl rfl rfl rfl ?_
      refine s_ldA0 ok rfl ?_
      refine s_getF ok rfl rfl rfl rfl ?_
      refine s_callVvx ok rfl rfl rfl rfl rfl rfl (ct_become4_15 (d := d + 5) hR9 (by rw [cnP_4]; exact hS9.1.2.2.2.2.2.2.2.2.2.2.2.2.2.1) hS9.1.2.1) (fun σ123 hσ123 => ?_)
      obtain ⟨g4, r4, rfl, f4, i4, hQ⟩ := hσ123
      refine s_ldI5 ok rfl ?_
      rw [if_neg (by omega)] at hV
      refine s_retI ok rfl ⟨congrArg (fun z => some (Value.int (iI z))) hV.symm, k2, g4, r4, l2, n2, rfl, ⟨by omega, by omega⟩, fun q hq => ⟨(f q hq).1, (f q hq).2.1, fun y => (f4 q (by omega)).trans ((f q hq).2.2.1 (by omega)), fun y y2 => (i4 q y2).trans ((f q hq).2.2.2 y)⟩, ?_⟩
      have z := hP.1 (by rw [tl_end (by omega)])
      rw [tl_end (by omega)] at z
      rw [z]
      exact hQ
    · refine s_ldA0 ok rfl ?_
      refine s_getF ok rfl rfl rfl rfl ?_
      refine s_ldA3 ok rfl ?_
      refine s_ldI6 ok rfl ?_
      have ha : fB1 (tc (h (w + 1)) L) a = -1 := by
        have z := hB (by omega)
        have eF : fB (tc (h (w + 1)) L) (L : Int) (c0 + 1) a = if fB1 (tc (h (w + 1)) L) a = -1 then (if a + (dgs ((tc (h (w + 1)) L) a) : Int) + 2 < (L : Int) then fB (tc (h (w + 1)) L) (L : Int) c0 (a + (dgs ((tc (h (w + 1)) L) a) : Int) + 2) else -1) else fB1 (tc (h (w + 1)) L) a := rfl
        rw [eF] at z
        by_cases q : fB1 (tc (h (w + 1)) L) a = -1
        · exact q
        · rw [if_neg q] at z
          exact absurd z q
      have te := ct_tell (E := E) (d := d) (k := k2) (h := g) (r := r2) (l := l2) (n := n2) hR9 hS9 (cS_fr hS (f 1 (by omega)).1 (f 2 (by omega)).1 ((f 1 (by omega)).2.2.1 (by omega)) ((f 2 (by omega)).2.2.1 (by omega))) (by omega) hw9 a0 (by omega) (by rw [ex]; exact ha) (by rw [ex]; exact hy a)
      rw [ex] at te
      refine s_callVg ok rfl rfl rfl rfl rfl rfl te (by omega) (by omega) (fun σ80 hσ80 => ?_)
      obtain ⟨k3, g3, r3, l3, n3, rfl, ⟨t1, t2, t3⟩, hR3⟩ := hσ80
      have f3 : (∀ q, q < n → k3 q = k q ∧ l3 q = l q ∧ ((q < 15 ∨ 24 < q) → g3 q = h q) ∧ (¬ q = 16 → r3 q = r q)) := fun q hq => ⟨(t3 q (by omega)).1.trans (f q hq).1, (t3 q (by omega)).2.1.trans (f q hq).2.1, fun y => ((t3 q (by omega)).2.2.1 y).trans ((f q hq).2.2.1 y), fun y => ((t3 q (by omega)).2.2.2 y).trans ((f q hq).2.2.2 y)⟩
      have o1 := dOk_01 (p := q9) (c := (tc (h (w + 1)) L) a) (N := nN (tc (h (w + 1)) L) a)
      have d7 := dgs_in ((tc (h (w + 1)) L) a)
      have d1 : ¬ dgs ((tc (h (w + 1)) L) a) = 0 := fun z => by
        unfold fB1 at ha
        rw [if_pos z] at ha
        omega
      refine s_if_eq ok rfl (by rcases o1 with z | z <;> (rw [z]; exact ⟨by omega, by omega⟩)) (fun c83 => ?_) (fun c83 => ?_)
      · refine s_ci ok rfl ?_
        refine s_ldI6 ok rfl ?_
        refine s_sub ok rfl ?_
        have n1 : ¬ dOk q9 ((tc (h (w + 1)) L) a) (nN (tc (h (w + 1)) L) a) = 1 := by omega
        have es : tl (tc (h (w + 1)) L) (L : Int) (c0 + 1) a q9 = if a < (L : Int) then (if dOk q9 ((tc (h (w + 1)) L) a) (nN (tc (h (w + 1)) L) a) = 1 then tl (tc (h (w + 1)) L) (L : Int) c0 (a + (dgs ((tc (h (w + 1)) L) a) : Int) + 2) (dPl q9 ((tc (h (w + 1)) L) a) (nN (tc (h (w + 1)) L) a)) else (-2000 - a, q9)) else (0, q9) := rfl
        rw [if_pos (by omega)] at es
        rw [if_neg n1] at es
        rw [if_pos (by omega), es, if_neg (by omega)] at hV
        have fr := day_fr (n2 := n3) hp hR hn (by omega) f3
        refine s_retI ok rfl ⟨congrArg (fun z => some (Value.int (iI z))) hV.symm, k3, g3, r3, l3, n3, rfl, ⟨by omega, by omega⟩, fr.2, ?_⟩
        rw [hP.2 (by rw [es]; show ¬ -2000 - a = 0; omega)]
        exact fr.1
      · refine s_inc5 ok rfl u4 ?_
        refine s_ldI6 ok rfl ?_
        refine s_ldA3 ok rfl ?_
        refine s_ldI6 ok rfl ?_
        refine s_callV ok rfl rfl rfl rfl (rw_up9 hw9 t1 t3 (by omega) (by omega)).1 rfl (ct_rat (rw_up9 hw9 t1 t3 (by omega) (by omega)) (by exact ⟨by omega, by omega⟩)) ?_
        have ex3 : tc (g3 (w + 1)) L = (tc (h (w + 1)) L) := by rw [(t3 (w + 1) (by omega)).2.2.1 (by omega), ex]
        rw [ex3]
        refine s_callS ok rfl rfl rfl rfl (ct_digits (by have := hy a; exact ⟨by omega, by omega⟩)) ?_
        refine s_ci ok rfl ?_
        refine s_add ok rfl ?_
        refine s_add ok rfl ?_
        rw [show a + ((dgs (tc (h (w + 1)) L a) : Int) + 2) = a + (dgs (tc (h (w + 1)) L a) : Int) + 2 by omega]
        refine s_stI6 ok rfl rfl ?_
        refine s_goto ok rfl ?_
        have y1 : dOk q9 ((tc (h (w + 1)) L) a) (nN (tc (h (w + 1)) L) a) = 1 := by omega
        rw [if_pos y1] at hR3
        have es : tl (tc (h (w + 1)) L) (L : Int) (c0 + 1) a q9 = if a < (L : Int) then (if dOk q9 ((tc (h (w + 1)) L) a) (nN (tc (h (w + 1)) L) a) = 1 then tl (tc (h (w + 1)) L) (L : Int) c0 (a + (dgs ((tc (h (w + 1)) L) a) : Int) + 2) (dPl q9 ((tc (h (w + 1)) L) a) (nN (tc (h (w + 1)) L) a)) else (-2000 - a, q9)) else (0, q9) := rfl
        rw [if_pos (by omega)] at es
        rw [if_pos y1] at es
        refine ih (a + (dgs ((tc (h (w + 1)) L) a) : Int) + 2) (s9 + 1) (dPl q9 ((tc (h (w + 1)) L) a) (nN (tc (h (w + 1)) L) a)) k3 g3 r3 l3 n3 (bc - 1) (bs - 2) ⟨by omega, by omega⟩ (by omega) (by omega) (by omega) ⟨by omega, by omega⟩ f3 hR3 (dPl_S hS9 (nN_R ha a0) y1) (fun q => ?_) ?_ ?_
        · have z := hB (by omega)
          have eF : fB (tc (h (w + 1)) L) (L : Int) (c0 + 1) a = if fB1 (tc (h (w + 1)) L) a = -1 then (if a + (dgs ((tc (h (w + 1)) L) a) : Int) + 2 < (L : Int) then fB (tc (h (w + 1)) L) (L : Int) c0 (a + (dgs ((tc (h (w + 1)) L) a) : Int) + 2) else -1) else fB1 (tc (h (w + 1)) L) a := rfl
          rw [eF, if_pos ha, if_pos q] at z
          exact z
        · have eC : cN (tc (h (w + 1)) L) (L : Int) (c0 + 1 + 1) a = 1 + (if a + (dgs ((tc (h (w + 1)) L) a) : Int) + 2 < (L : Int) then cN (tc (h (w + 1)) L) (L : Int) (c0 + 1) (a + (dgs ((tc (h (w + 1)) L) a) : Int) + 2) else 0) := rfl
          rw [if_pos (by omega), es, eC] at hV
          rw [hV]
          by_cases q : a + (dgs ((tc (h (w + 1)) L) a) : Int) + 2 < (L : Int)
          · rw [if_pos q, if_pos q]
            split <;> omega
          · rw [if_neg q, if_neg q, tl_end q, if_pos rfl]
            omega
        · rw [es] at hP
          exact hP
