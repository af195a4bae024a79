/-! The event of a train: its parts keep what they should; the method stops -/
def dG (x : Int) (h g : Nat → Int → Int) (c : Int) : Prop := (∀ n, n < 63 ∨ 75 < n → ¬ n = 59 → g n = h n) ∧ (∀ j, ¬ j = 19 → g 59 j = h 59 j) ∧ g 63 = h 63 ∧ g 64 = h 64 ∧ g 66 = h 66 ∧ g 67 = zv h 67 (5 * x + h 63 x) (h 64 x) 67 ∧ g 68 = h 68 ∧ (∀ j, ¬ j = x → g 65 j = h 65 j) ∧ dP g ∧ (h 65 x - 2 * c ≤ g 65 x ∧ g 65 x ≤ h 65 x + 2 * c) ∧ (0 ≤ g 59 19 ∧ g 59 19 ≤ c)
theorem nP_ok {h : Nat → Int → Int} (hd : dP h) : h 60 6 = (nP h : Int) ∧ nP h ≤ 8 := by
  have h1 := hd.1.2.2.2.2.2.2.2.2.2.2.2.2.1
  have h2 := hd.1.2.2.2.2.2.2.2.2.2.2.2.2.2.1
  unfold nP
  omega
theorem sS2_ok {x : Int} {h : Nat → Int → Int} (hd : dP h) (h4 : zb (h 64 x)) : dG x h (sS2 x h) 8 := by
  have hd1 : dP (zv (zv h 59 19 0) 67 (5 * x + h 63 x) (h 64 x)) := ⟨hd.1, hd.2.1, hd.2.2.1, hd.2.2.2.1, by
    show zb (zv (zv h 59 19 0) 67 _ _ 59 17)
    rw [zv_other (by omega), zv_at (by omega)]
    exact hd.2.2.2.2⟩
  obtain ⟨⟨i1, i2, i3, i4⟩, -, -⟩ := dK_go (x := x) hd1 h4 (nP h)
  have hn := (nP_ok hd).2
  have e1 : zv (zv h 59 19 0) 67 (5 * x + h 63 x) (h 64 x) 59 19 = 0 := by rw [zv_other (by omega), zv_is]
  rw [e1] at i4
  refine ⟨fun n h1 h2 => (i1.1 n h1 h2).trans ?_, fun j hj => (i1.2.1 j hj).trans ?_, i1.2.2.1, i1.2.2.2.1, i1.2.2.2.2.1, i1.2.2.2.2.2.1.trans ?_, i1.2.2.2.2.2.2.1, i1.2.2.2.2.2.2.2, i2, ?_, ?_⟩
  · rw [zv_other (by omega), zv_other h2]
  · rw [zv_other (by omega), zv_at hj]
  · funext j
    by_cases q : j = 5 * x + h 63 x
    · rw [q, zv_is, zv_is]
    · rw [zv_at q, zv_at q, zv_other (by omega)]
  · have i3 : h 65 x - 2 * (nP h : Int) ≤ sS2 x h 65 x ∧ sS2 x h 65 x ≤ h 65 x + 2 * (nP h : Int) := i3
    omega
  · have i4 : 0 ≤ sS2 x h 59 19 ∧ sS2 x h 59 19 ≤ 0 + (nP h : Int) := i4
    omega
theorem zar_at {h : Nat → Int → Int} {n : Nat} {a : Int → Int} : zar h n a n = a := by
  unfold zar
  rw [Nat.beq_refl]
  rfl
theorem zar_other {h : Nat → Int → Int} {n m : Nat} {a : Int → Int} (hm : ¬ m = n) : zar h n a m = h m := by
  unfold zar
  have : Nat.beq m n = false := by cases z : Nat.beq m n; rfl; exact absurd (Nat.eq_of_beq_eq_true z) hm
  rw [this]
  rfl
theorem sS3_ok {x : Int} {h : Nat → Int → Int} (hd : dP h) (h4 : zb (h 64 x)) : dG x h (sS3 x h) 8 := by
  obtain ⟨a1, a2⟩ := sS2_ok (x := x) hd h4
  unfold sS3
  refine ⟨fun n h1 h2 => (zar_other (by omega)).trans (a1 n h1 h2), a2⟩
theorem sS4_ok {x : Int} {h : Nat → Int → Int} (hd : dP h) (h4 : zb (h 64 x)) (x0 : 0 ≤ x) (x1 : x < 12) : dG x h (sS4 x h) 16 := by
  have hn := (nP_ok hd).2
  unfold sS4
  split
  · have g3 := sS3_ok (x := x) hd h4
    obtain ⟨b1, b2⟩ := sAs_in (x := x) (h := sS2 x h) (nP h) hn
    have e75 : sS3 x h 75 = (sAs x (sS2 x h) (nP h)).2 := zar_at
    obtain ⟨⟨i1, i2, i3, i4⟩, -, -⟩ := dK_ta (x := x) (g := sS3 x h) (n9 := (sAs x (sS2 x h) (nP h)).1) x0 x1 g3.2.2.2.2.2.2.2.2.1 (by rw [e75]; exact b2) _ (Nat.le_refl _)
    generalize sTa x (sS3 x h) (sAs x (sS2 x h) (nP h)).1 = f at *
    generalize sS3 x h = g at *
    obtain ⟨c1, c2, c3, c4, c5, c6, c7, c8, c9, c10, c11⟩ := g3
    exact ⟨fun n h1 h2 => (i1.1 n h1 h2).trans (c1 n h1 h2), fun j hj => (i1.2.1 j hj).trans (c2 j hj), i1.2.2.1.trans c3, i1.2.2.2.1.trans c4, i1.2.2.2.2.1.trans c5, i1.2.2.2.2.2.1.trans c6, i1.2.2.2.2.2.2.1.trans c7, fun j hj => (i1.2.2.2.2.2.2.2 j hj).trans (c8 j hj), i2, ⟨by omega, by omega⟩, ⟨by omega, by omega⟩⟩
  · obtain ⟨c1, c2, c3, c4, c5, c6, c7, c8, c9, c10, c11⟩ := sS2_ok (x := x) hd h4
    exact ⟨c1, c2, c3, c4, c5, c6, c7, c8, c9, ⟨by omega, by omega⟩, ⟨by omega, by omega⟩⟩
theorem zmul3 {a b c : Int} (a0 : 0 ≤ a) (a1 : a ≤ 90) (b0 : 0 ≤ b) (b1 : b ≤ 2) (c0 : 0 ≤ c) (c1 : c ≤ 9) : 0 ≤ a * b * c ∧ a * b * c ≤ 1620 := by
  have h1 : 0 ≤ a * b := Int.mul_nonneg a0 b0
  have h2 : a * b ≤ 90 * 2 := Int.mul_le_mul a1 b1 b0 (by omega)
  have h3 : 0 ≤ a * b * c := Int.mul_nonneg h1 c0
  have h4 : a * b * c ≤ 90 * 2 * 9 := Int.mul_le_mul h2 c1 c0 (by omega)
  omega
theorem ct_stops {E : zE} {d : Nat} {k : Nat → Nat × Nat} {h : Nat → Int → Int} {r : Nat → Int → Option Nat} {l : Nat → Nat → Int64} {n : Nat} {x : Int} (hd : dP h) (hx : dX h x) (x0 : 0 ≤ x) (x1 : x < 3 * h 60 0) : zCT E (d + 5) M_X12_stops [.ref 59, .int (iI x)] (zJ (k, h, r, l, n)) 0 0 (zU (zJ (k, sStop x h, r, l, n))) := by
  have ok := ok_X12_stops
  obtain ⟨⟨s0, s1⟩, ⟨t0, t1⟩, ⟨u0, u1⟩, ⟨v0, v1⟩⟩ := hx
  have o1 := hd.1.2.1
  have x2 : x < 12 := by omega
  obtain ⟨n1, n2⟩ := nP_ok hd
  have z64 : zb (h 64 x) := ⟨by omega, by omega⟩
  have A2 := sS2_ok (x := x) hd z64
  have A4 := sS4_ok (x := x) hd z64 x0 x2
  have e2 : sS2 x h 60 = h 60 := A2.1 60 (by omega) (by omega)
  have e4 : sS4 x h 60 = h 60 := A4.1 60 (by omega) (by omega)
  have f2 : sS2 x h 63 x = h 63 x := by rw [A2.2.2.1]
  have f4 : sS4 x h 63 x = h 63 x := by rw [A4.2.2.1]
  have w4 : sS4 x h 64 x = h 64 x := by rw [A4.2.2.2.1]
  have m4 : sS4 x h 66 x = h 66 x := by rw [A4.2.2.2.2.1]
  have p4 := A4.2.2.2.2.2.2.2.2.2.1
  have p5 := A4.2.2.2.2.2.2.2.2.2.2
  have rr := hd.1.2.2.2.2.2.2.2.2.2.2.2.2.2.2.1 (7 + h 63 x)
  have r4 := hd.1.2.2.2.2.2.2.2.2.1
  have r4b := hd.1.2.2.2.2.2.2.2.2.2.1
  have r5 := hd.1.2.2.2.2.2.2.2.2.2.2.1
  have K236 : ∀ (q2 q3 u : Option Value), zGo E (d + 5) M_X12_stops 0 0 (zU (zJ (k, sStop x h, r, l, n))) 236 ([some (.ref 59), some (.int (iI x)), q2, q3, u], [], zJ (k, sS7 x h, r, l, n), 0, 0) := by
    intro q2 q3 u
    have e7 : sS7 x h 63 x = h 63 x := by
      unfold sS7
      split
      · exact f4
      · exact f4
    refine s_ldA0 ok rfl ?_
    refine s_getF ok rfl rfl rfl rfl ?_
    refine s_ldI1 ok rfl ?_
    refine s_dup2 ok rfl ?_
    refine s_iald ok rfl (by exact rfl) (by exact rfl) (by omega) (by omega) ?_
    refine s_ci ok rfl ?_
    refine s_add ok rfl ?_
    refine s_iast ok rfl (by exact rfl) (by exact rfl) (by omega) (by omega) (fun q => by cases q) ?_
    refine s_retV ok rfl ⟨rfl, by unfold sStop; rw [← e7]⟩
  have D9 : h 63 x ≤ 3 → 0 ≤ h 60 (7 + h 63 x) * (x % 3) * h 60 4 ∧ h 60 (7 + h 63 x) * (x % 3) * h 60 4 ≤ 1620 := fun q => by
    obtain ⟨ra, rb⟩ := rr (by omega) (by omega)
    exact zmul3 (by omega) rb (by omega) (by omega) r4 r4b
  have K158 : ∀ (q2 q3 u : Option Value) (g6 : Nat → Int → Int), znl q2 = true → znl q3 = true → sS6 x h = g6 → g6 60 = h 60 → g6 63 x = h 63 x → g6 64 x = h 64 x → g6 59 19 = sS4 x h 59 19 → zGo E (d + 5) M_X12_stops 0 0 (zU (zJ (k, sStop x h, r, l, n))) 158 ([some (.ref 59), some (.int (iI x)), q2, q3, u], [], zJ (k, g6, r, l, n), 0, 0) := by
    intro q2 q3 u g6 hq2 hq3 e6 y60 y63 y64 y59
    refine s_ldA0 ok rfl ?_
    refine s_getF ok rfl rfl rfl rfl ?_
    refine s_ldI1 ok rfl ?_
    refine s_iald ok rfl (by exact rfl) (by exact rfl) (by omega) (by omega) ?_
    rw [y63]
    refine s_ci ok rfl ?_
    refine s_c_ge ok rfl ⟨by omega, by omega⟩ ⟨by omega, by omega⟩ (fun c165 => ?_) (fun c165 => ?_)
    · have e7 : sS7 x h = g6 := by unfold sS7; rw [if_neg (by omega), e6]
      rw [← e7]
      exact K236 _ _ _
    · obtain ⟨D0, D1⟩ := D9 (by omega)
      refine s_ldI1 ok rfl ?_
      refine s_ci ok rfl ?_
      refine s_rem ok rfl ⟨by omega, by omega⟩ ⟨by omega, by omega⟩ (by omega) (by omega) ?_
      refine s_stI3 ok rfl hq2 ?_
      refine s_ldA0 ok rfl ?_
      refine s_getF ok rfl rfl rfl rfl ?_
      refine s_ci ok rfl ?_
      refine s_ldA0 ok rfl ?_
      refine s_getF ok rfl rfl rfl rfl ?_
      refine s_ldI1 ok rfl ?_
      refine s_iald ok rfl (by exact rfl) (by exact rfl) (by omega) (by omega) ?_
      rw [y63]
      refine s_add ok rfl ?_
      refine s_iald ok rfl (by exact rfl) (by exact rfl) (by omega) (by omega) ?_
      rw [y60]
      refine s_stI4 ok rfl rfl ?_
      refine s_ldA0 ok rfl ?_
      refine s_getF ok rfl rfl rfl rfl ?_
      refine s_ldI1 ok rfl ?_
      refine s_dup2 ok rfl ?_
      refine s_iald ok rfl (by exact rfl) (by exact rfl) (by omega) (by omega) ?_
      rw [y64]
      refine s_ldI3 ok rfl ?_
      refine s_if_le ok rfl ⟨by omega, by omega⟩ (fun c196 => ?_) (fun c196 => ?_)
      · refine s_ci ok rfl ?_
        refine s_ldI4 ok rfl ?_
        refine s_add ok rfl ?_
        refine s_ldI4 ok rfl ?_
        refine s_ldI3 ok rfl ?_
        refine s_mul ok rfl ?_
        refine s_ldA0 ok rfl ?_
        refine s_getF ok rfl rfl rfl rfl ?_
        refine s_ci ok rfl ?_
        refine s_iald ok rfl (by exact rfl) (by exact rfl) (by omega) (by omega) ?_
        rw [y60]
        refine s_mul ok rfl ?_
        refine s_ci ok rfl ?_
        refine s_div ok rfl ⟨by omega, by omega⟩ ⟨by omega, by omega⟩ (by omega) (by omega) ?_
        refine s_add ok rfl ?_
        refine s_add ok rfl ?_
        refine s_iast ok rfl (by exact rfl) (by exact rfl) (by omega) (by omega) (fun q => by cases q) ?_
        have e7 : sS7 x h = zv g6 64 x (h 64 x + (0 + h 60 (7 + h 63 x) + h 60 (7 + h 63 x) * (x % 3) * h 60 4 / 10)) := by unfold sS7; rw [if_pos (by omega), if_neg (by omega), e6]
        rw [← e7]
        exact K236 _ _ _
      · refine s_ldA0 ok rfl ?_
        refine s_getJ 19 ok rfl rfl rfl rfl ?_
        rw [y59]
        refine s_if_le ok rfl ⟨by omega, by omega⟩ (fun c203 => ?_) (fun c203 => ?_)
        · refine s_ci ok rfl ?_
          refine s_ldI4 ok rfl ?_
          refine s_add ok rfl ?_
          refine s_ldI4 ok rfl ?_
          refine s_ldI3 ok rfl ?_
          refine s_mul ok rfl ?_
          refine s_ldA0 ok rfl ?_
          refine s_getF ok rfl rfl rfl rfl ?_
          refine s_ci ok rfl ?_
          refine s_iald ok rfl (by exact rfl) (by exact rfl) (by omega) (by omega) ?_
          rw [y60]
          refine s_mul ok rfl ?_
          refine s_ci ok rfl ?_
          refine s_div ok rfl ⟨by omega, by omega⟩ ⟨by omega, by omega⟩ (by omega) (by omega) ?_
          refine s_add ok rfl ?_
          refine s_add ok rfl ?_
          refine s_iast ok rfl (by exact rfl) (by exact rfl) (by omega) (by omega) (fun q => by cases q) ?_
          have e7 : sS7 x h = zv g6 64 x (h 64 x + (0 + h 60 (7 + h 63 x) + h 60 (7 + h 63 x) * (x % 3) * h 60 4 / 10)) := by unfold sS7; rw [if_pos (by omega), if_neg (by omega), e6]
          rw [← e7]
          exact K236 _ _ _
        · refine s_ldA0 ok rfl ?_
          refine s_getF ok rfl rfl rfl rfl ?_
          refine s_ci ok rfl ?_
          refine s_iald ok rfl (by exact rfl) (by exact rfl) (by omega) (by omega) ?_
          rw [y60]
          refine s_goto ok rfl ?_
          refine s_ldI4 ok rfl ?_
          refine s_add ok rfl ?_
          refine s_ldI4 ok rfl ?_
          refine s_ldI3 ok rfl ?_
          refine s_mul ok rfl ?_
          refine s_ldA0 ok rfl ?_
          refine s_getF ok rfl rfl rfl rfl ?_
          refine s_ci ok rfl ?_
          refine s_iald ok rfl (by exact rfl) (by exact rfl) (by omega) (by omega) ?_
          rw [y60]
          refine s_mul ok rfl ?_
          refine s_ci ok rfl ?_
          refine s_div ok rfl ⟨by omega, by omega⟩ ⟨by omega, by omega⟩ (by omega) (by omega) ?_
          refine s_add ok rfl ?_
          refine s_add ok rfl ?_
          refine s_iast ok rfl (by exact rfl) (by exact rfl) (by omega) (by omega) (fun q => by cases q) ?_
          have e7 : sS7 x h = zv g6 64 x (h 64 x + (h 60 5 + h 60 (7 + h 63 x) + h 60 (7 + h 63 x) * (x % 3) * h 60 4 / 10)) := by unfold sS7; rw [if_pos (by omega), if_pos (by omega), e6]
          rw [← e7]
          exact K236 _ _ _
  have K142 : ∀ (q3 : Int) (u : Option Value), zGo E (d + 5) M_X12_stops 0 0 (zU (zJ (k, sStop x h, r, l, n))) 142 ([some (.ref 59), some (.int (iI x)), some (.int (iI (zmk (zabd (sS5 x h) x) (nP h)))), some (.int (iI q3)), u], [], zJ (k, sS5 x h, r, l, n), 0, 0) := by
    intro q3 u
    refine s_ldA0 ok rfl ?_
    refine s_getF ok rfl rfl rfl rfl ?_
    refine s_ci ok rfl ?_
    refine s_ldI1 ok rfl ?_
    refine s_mul ok rfl ?_
    refine s_ldA0 ok rfl ?_
    refine s_getF ok rfl rfl rfl rfl ?_
    refine s_ldI1 ok rfl ?_
    refine s_iald ok rfl (by exact rfl) (by exact rfl) (by omega) (by omega) ?_
    rw [show sS5 x h 63 x = h 63 x from f4]
    refine s_add ok rfl ?_
    refine s_ldI2 ok rfl ?_
    refine s_iast ok rfl (by exact rfl) (by exact rfl) (by omega) (by omega) (fun q => by cases q) ?_
    exact K158 _ _ _ _ rfl rfl rfl e4 f4 w4 rfl
  have K71 : ∀ (q2 q3 : Option Value), zGo E (d + 5) M_X12_stops 0 0 (zU (zJ (k, sStop x h, r, l, n))) 71 ([some (.ref 59), some (.int (iI x)), q2, q3, none], [], zJ (k, sS4 x h, r, l, n), 0, 0) := by
    intro q2 q3
    refine s_ldA0 ok rfl ?_
    refine s_getF ok rfl rfl rfl rfl ?_
    refine s_ldI1 ok rfl ?_
    refine s_ldA0 ok rfl ?_
    refine s_getF ok rfl rfl rfl rfl ?_
    refine s_ldI1 ok rfl ?_
    refine s_iald ok rfl (by exact rfl) (by exact rfl) (by omega) (by omega) ?_
    refine s_ldA0 ok rfl ?_
    refine s_getF ok rfl rfl rfl rfl ?_
    refine s_ldI1 ok rfl ?_
    refine s_iald ok rfl (by exact rfl) (by exact rfl) (by omega) (by omega) ?_
    refine s_callS ok rfl rfl rfl rfl (ct_most (by rw [A4.2.2.2.2.1]; exact ⟨by omega, by omega⟩) ⟨by omega, by omega⟩) ?_
    refine s_iast ok rfl (by exact rfl) (by exact rfl) (by omega) (by omega) (fun q => by cases q) ?_
    refine s_ci ok rfl ?_
    refine s_stI2 ok rfl rfl ?_
    refine s_ci ok rfl ?_
    refine s_stI3 ok rfl rfl ?_
    exact lp_mask (h := sS5 x h) (np := nP h) x0 x2 A4.2.2.2.2.2.2.2.2.1.2.1 A4.2.2.2.2.2.2.2.2.1.2.2.1 (by show sS4 x h 60 6 = _; rw [e4]; exact n1) n2 K142 (nP h + 1) 0 none (by omega) (by omega)
  have y0 : zv h 59 19 0 63 x = h 63 x := rfl
  refine zCT_of pn_X12_stops (Nat.le_of_ble_eq_true rfl) ?_
  show zGo _ _ _ _ _ _ 0 ([some (.ref 59), some (.int (iI x)), none, none, none], [], _, _, _)
  refine s_ldA0 ok rfl ?_
  refine s_ci ok rfl ?_
  refine s_putJ 19 ok rfl rfl rfl rfl (fun q => by cases q) ?_
  refine s_ldA0 ok rfl ?_
  refine s_getF ok rfl rfl rfl rfl ?_
  refine s_ci ok rfl ?_
  refine s_ldI1 ok rfl ?_
  refine s_mul ok rfl ?_
  refine s_ldA0 ok rfl ?_
  refine s_getF ok rfl rfl rfl rfl ?_
  refine s_ldI1 ok rfl ?_
  refine s_iald ok rfl (by exact rfl) (by exact rfl) (by omega) (by omega) ?_
  refine s_add ok rfl ?_
  refine s_ldA0 ok rfl ?_
  refine s_getF ok rfl rfl rfl rfl ?_
  refine s_ldI1 ok rfl ?_
  refine s_iald ok rfl (by exact rfl) (by exact rfl) (by omega) (by omega) ?_
  refine s_iast ok rfl (by exact rfl) (by exact rfl) (by omega) (by omega) (fun q => by cases q) ?_
  refine s_ldA0 ok rfl ?_
  refine s_ldI1 ok rfl ?_
  refine s_callVv ok rfl rfl rfl rfl rfl rfl (ct_getsOff (np := nP h) (by exact hd.1) x0 x2 ⟨by show -2147483648 ≤ h 63 x; omega, by show h 63 x < 2147483648; omega⟩ ⟨by show -2147483648 ≤ h 64 x; omega, by show h 64 x < 2147483648; omega⟩ (by exact hd.2.1) (by exact hd.2.2.1) (by exact n1) n2) ?_
  show zGo _ _ _ _ _ _ 31 (_, _, zJ (k, sS2 x h, r, l, n), _, _)
  refine s_ldA0 ok rfl ?_
  refine s_getF ok rfl rfl rfl rfl ?_
  refine s_ldI1 ok rfl ?_
  refine s_iald ok rfl (by exact rfl) (by exact rfl) (by omega) (by omega) ?_
  rw [f2]
  refine s_ci ok rfl ?_
  refine s_c_ge ok rfl ⟨by omega, by omega⟩ ⟨by omega, by omega⟩ (fun c38 => ?_) (fun c38 => ?_)
  · have e9 : sS4 x h = sS2 x h := if_neg (by omega)
    rw [← e9]
    exact K71 none none
  · refine s_ldA0 ok rfl ?_
    refine s_ldI1 ok rfl ?_
    refine s_callV ok rfl rfl rfl rfl rfl rfl (ct_asks (h := sS2 x h) (np := nP h) (x := x) A2.2.2.2.2.2.2.2.2.1.1 x0 x2 (by rw [A2.2.2.1]; exact ⟨by omega, by omega⟩) A2.2.2.2.2.2.2.2.2.1.2.1 A2.2.2.2.2.2.2.2.2.1.2.2.2.2 (by rw [e2]; exact n1) n2) ?_
    refine s_stI2 ok rfl rfl ?_
    show zGo _ _ _ _ _ _ 47 (_, _, zJ (k, sS3 x h, r, l, n), _, _)
    refine s_ci ok rfl ?_
    refine s_stI3 ok rfl rfl ?_
    have A3 := sS3_ok (x := x) hd z64
    obtain ⟨b1, b2⟩ := sAs_in (x := x) (h := sS2 x h) (nP h) n2
    have e75 : sS3 x h 75 = (sAs x (sS2 x h) (nP h)).2 := zar_at
    have t64 : sS3 x h 64 x = h 64 x := by rw [A3.2.2.2.1]
    have t65 := A3.2.2.2.2.2.2.2.2.2.1
    exact lp_tryall (g := sS3 x h) (n9 := (sAs x (sS2 x h) (nP h)).1) x0 x2 A3.2.2.2.2.2.2.2.2.1 (by rw [e75]; exact b2) (by omega) ⟨by omega, by omega⟩ ⟨by omega, by omega⟩ (fun q3 => by have e9 : sS4 x h = sTa x (sS3 x h) (sAs x (sS2 x h) (nP h)).1 := if_pos (by omega); rw [← e9]; exact K71 _ _) ((sAs x (sS2 x h) (nP h)).1 + 1) 0 (by omega) (by omega)
