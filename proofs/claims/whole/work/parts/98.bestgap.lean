/-! the class: bestGap -/
theorem lp_bestGap11 {E : zE} {d : Nat} {k : Nat → Nat × Nat} {h : Nat → Int → Int} {r : Nat → Int → Option Nat} {l : Nat → Nat → Int64} {n : Nat} {p : Int → Int} (hs : pS p) (hR : cR 4 5 6 7 8 9 10 11 12 13 k h r n p (-4)) : ∀ c : Nat, ∀ (m : Nat) (g : Nat → Int → Int) (r9 : Nat → Int → Option Nat) (x b s : Int) (u : Option Value), (1 ≤ x ∧ x ≤ 30) → znl u = true → cT h g ∧ cR 15 16 17 18 19 20 21 22 23 24 k g r9 n (zp p 3 x) (-4) ∧ (∀ q, ¬ q = 16 → r9 q = r q) ∧ ((m = 0 ∧ b = 1 ∧ s = 1000000) ∨ (0 < m ∧ b = (sBI (fun v => dMi (zp p 3 v) (-4) 3) (fun m => 1 + (m : Int)) m).1 ∧ s = (sBI (fun v => dMi (zp p 3 v) (-4) 3) (fun m => 1 + (m : Int)) m).2 ∧ 0 ≤ s ∧ s ≤ 16000)) → 30 < m + c → m ≤ 30 → zGo E (d + 10) M_X11_bestGap 0 0 (zVx (.int (iI ((sBI (fun v => dMi (zp p 3 v) (-4) 3) (fun m => 1 + (m : Int)) 30).1))) (fun s => ∃ g r9, s = zJ (k, g, r9, l, n) ∧ cT h g ∧ (∀ q, ¬ q = 16 → r9 q = r q))) 19 ([some (.ref 3), some (.int (iI (b))), some (.int (iI (s))), some (.int (iI (1 + (m : Int)))), u], [], zJ (k, g, r9, l, n), 0, 0) := by
  have ok := ok_X11_bestGap
  intro c
  induction c with
  | zero =>
    intros
    omega
  | succ c ih =>
    intro m g r9 x b s u ⟨x0, x1⟩ hu9 ⟨i1, i2, i3, i4⟩ g1 g2
    have hp := hs.1
    have hft := hs.2.2.2.1
    have p60 := hp.2.2.2.2.2.2.2.2.2.2.2.2.1
    have p68 := hp.2.2.2.2.2.2.2.2.2.2.2.2.2.1
    have p00 := hp.1
    have p04 := hp.2.1
    have hf : ∀ q : Int, 0 ≤ q → q < p 6 → ¬ pFr p q = 4 := fun q q0 q1 => by have := pOf_gt hp q0 (by omega) (hft q q0 q1); omega
    refine s_ldI3 ok rfl ?_
    refine s_ci ok rfl ?_
    refine s_c_gt ok rfl ⟨by omega, by omega⟩ ⟨by omega, by omega⟩ (fun c22 => ?_) (fun c22 => ?_)
    · refine s_ldI1 ok rfl ?_
      have em : m = 30 := by omega
      subst em
      rcases i4 with z | z
      · omega
      · exact s_retI ok rfl ⟨congrArg (fun z => some (Value.int (iI z))) z.2.1, g, r9, rfl, i1, i3⟩
    · have hp9 : pOK (zp p 3 (1 + (m : Int))) := pOK_put hp (Or.inr (Or.inr (Or.inl ⟨rfl, by omega, by omega⟩)))
      have e69 : (zp p 3 (1 + (m : Int))) 6 = p 6 := zp_ne (by omega)
      have hft9 : ∀ u : Int, 0 ≤ u → u < (zp p 3 (1 + (m : Int))) 6 → pFr (zp p 3 (1 + (m : Int))) u < pTo (zp p 3 (1 + (m : Int))) u := fun u u0 u1 => by
        rw [show pFr (zp p 3 (1 + (m : Int))) u = pFr p u from zp_ne (by omega), show pTo (zp p 3 (1 + (m : Int))) u = pTo p u from zp_ne (by omega)]
        exact hft u u0 (by omega)
      have hf9 : ∀ u : Int, 0 ≤ u → u < (zp p 3 (1 + (m : Int))) 6 → ¬ pFr (zp p 3 (1 + (m : Int))) u = 4 := fun u u0 u1 => by have := pOf_gt hp9 u0 (by omega) (hft9 u u0 u1); omega
      have hR9 : cR 15 16 17 18 19 20 21 22 23 24 k (zv g 24 1 (1 + (m : Int))) r9 n (zp p 3 (1 + (m : Int))) (-4) := by
        have z := cR15_rule i2 (x := 1) (v := 1 + (m : Int)) (by omega) (by omega)
        have z : cR 15 16 17 18 19 20 21 22 23 24 k (zv g 24 1 (1 + (m : Int))) r9 n (zp (zp p 3 x) 3 (1 + (m : Int))) (-4) := z
        rw [zp_zp] at z
        exact z
      refine s_ldA0 ok rfl ?_
      refine s_getF ok rfl rfl rfl rfl ?_
      refine s_getF ok rfl rfl rfl rfl ?_
      refine s_ci ok rfl ?_
      refine s_ldI3 ok rfl ?_
      refine s_iast ok rfl (by exact rfl) (by exact rfl) (by omega) (by omega) (fun q => by cases q) ?_
      refine s_ldA0 ok rfl ?_
      refine s_getF ok rfl rfl rfl rfl ?_
      refine s_ldA0 ok rfl ?_
      refine s_getF ok rfl rfl rfl rfl ?_
      refine s_ci ok rfl ?_
      refine s_callVvx ok rfl rfl rfl rfl rfl rfl (ct_go15 (d := d + 1) (p := (zp p 3 (1 + (m : Int)))) (w := -4) (dd := 3) hp9 (Or.inr rfl) (Or.inl rfl) hf9 hR9) (fun σ44 hσ44 => ?_)
      obtain ⟨g44, rfl, hg44⟩ := hσ44
      obtain ⟨gf44, -, gC44, gT44, gS44⟩ := hg44
      have D44 := tD_of hp9 (Or.inl rfl) hft9 gT44 gS44
      have e3744 : g44 37 6 = (zp p 3 (1 + (m : Int))) 6 := gC44.1.trans cnP_4
      have hz44 : ∀ s : Int, 0 ≤ s → s < (zp p 3 (1 + (m : Int))) 6 → zb (g44 44 s) := fun s s0 s1 => by
        rw [(tD_one D44 s0 s1).1]
        split
        · exact ⟨by omega, by omega⟩
        · exact (dN_ok (dd := 3) hp9 (w := -4) ⟨by omega, by omega⟩).2.1 s
      have eA44 : zsum (tA g44) ((zp p 3 (1 + (m : Int))) 6).toNat = dMi (zp p 3 (1 + (m : Int))) (-4) 3 := by
        unfold dMi
        refine zsum_cg _ fun s s0 s1 => ?_
        have := (tD_a D44 (t := s) s0 (by rw [cnP_4]; omega)).1
        rw [sg_4] at this
        exact this
      have bd := dMi_in (p := (zp p 3 (1 + (m : Int)))) (w := -4) (dd := 3) hp9 ⟨by omega, by omega⟩
      have es : sBI (fun v => dMi (zp p 3 v) (-4) 3) (fun m => 1 + (m : Int)) (m + 1) = if (sBI (fun v => dMi (zp p 3 v) (-4) 3) (fun m => 1 + (m : Int)) m).2 ≤ dMi (zp p 3 (1 + (m : Int))) (-4) 3 then sBI (fun v => dMi (zp p 3 v) (-4) 3) (fun m => 1 + (m : Int)) m else (1 + (m : Int), dMi (zp p 3 (1 + (m : Int))) (-4) 3) := rfl
      refine s_ldA0 ok rfl ?_
      refine s_getF ok rfl rfl rfl rfl ?_
      refine s_callV ok rfl rfl rfl rfl rfl rfl (ct_allArrivals9 (h := g44) (cn := ((zp p 3 (1 + (m : Int))) 6).toNat) (by rw [e3744]; omega) (by omega) (fun s s0 s1 => hz44 s s0 (by omega))) ?_
      rw [eA44]
      refine s_stI4 ok rfl rfl ?_
      refine s_ldI4 ok rfl ?_
      refine s_ldI2 ok rfl ?_
      refine s_c_ge ok rfl ⟨by omega, by omega⟩ ⟨by omega, by omega⟩ (fun c59 => ?_) (fun c59 => ?_)
      · refine s_inc3 ok rfl rfl ?_
        refine s_goto ok rfl ?_
        have J1 : cT h g44 := fun q hq => (gf44 q (by omega)).trans ((zv_other (by omega)).trans (i1 q hq))
        rw [show 1 + (m : Int) + 1 = 1 + ((m + 1 : Nat) : Int) by omega]
        first
          | (have c : s ≤ dMi (zp p 3 (1 + (m : Int))) (-4) 3 := c59
             have mp : 0 < m := by omega
             have i5 : b = (sBI (fun v => dMi (zp p 3 v) (-4) 3) (fun m => 1 + (m : Int)) m).1 ∧ s = (sBI (fun v => dMi (zp p 3 v) (-4) 3) (fun m => 1 + (m : Int)) m).2 ∧ 0 ≤ s ∧ s ≤ 16000 := by
               rcases i4 with z | z
               · omega
               · exact z.2
             rw [if_pos (by omega)] at es
             exact ih (m + 1) g44 r9 (1 + (m : Int)) b s (some (.int (iI (dMi (zp p 3 (1 + (m : Int))) (-4) 3)))) ⟨by omega, by omega⟩ rfl ⟨J1, cR15_trip hR9 gf44, i3, Or.inr ⟨by omega, by rw [es]; exact i5.1, by rw [es]; exact i5.2.1, i5.2.2⟩⟩ (by omega) (by omega))
          | (have c : dMi (zp p 3 (1 + (m : Int))) (-4) 3 < s := c59
             have i5 : ¬ (sBI (fun v => dMi (zp p 3 v) (-4) 3) (fun m => 1 + (m : Int)) m).2 ≤ dMi (zp p 3 (1 + (m : Int))) (-4) 3 := by
               rcases i4 with z | z
               · have : (sBI (fun v => dMi (zp p 3 v) (-4) 3) (fun m => 1 + (m : Int)) m).2 = 1000000000 := by rw [z.1]; rfl
                 omega
               · omega
             rw [if_neg i5] at es
             exact ih (m + 1) g44 r9 (1 + (m : Int)) (1 + (m : Int)) (dMi (zp p 3 (1 + (m : Int))) (-4) 3) (some (.int (iI (dMi (zp p 3 (1 + (m : Int))) (-4) 3)))) ⟨by omega, by omega⟩ rfl ⟨J1, cR15_trip hR9 gf44, i3, Or.inr ⟨by omega, by rw [es], by rw [es], by omega, by omega⟩⟩ (by omega) (by omega))
      · refine s_ldI4 ok rfl ?_
        refine s_stI2 ok rfl rfl ?_
        refine s_ldI3 ok rfl ?_
        refine s_stI1 ok rfl rfl ?_
        refine s_inc3 ok rfl rfl ?_
        refine s_goto ok rfl ?_
        have J1 : cT h g44 := fun q hq => (gf44 q (by omega)).trans ((zv_other (by omega)).trans (i1 q hq))
        rw [show 1 + (m : Int) + 1 = 1 + ((m + 1 : Nat) : Int) by omega]
        first
          | (have c : s ≤ dMi (zp p 3 (1 + (m : Int))) (-4) 3 := c59
             have mp : 0 < m := by omega
             have i5 : b = (sBI (fun v => dMi (zp p 3 v) (-4) 3) (fun m => 1 + (m : Int)) m).1 ∧ s = (sBI (fun v => dMi (zp p 3 v) (-4) 3) (fun m => 1 + (m : Int)) m).2 ∧ 0 ≤ s ∧ s ≤ 16000 := by
               rcases i4 with z | z
               · omega
               · exact z.2
             rw [if_pos (by omega)] at es
             exact ih (m + 1) g44 r9 (1 + (m : Int)) b s (some (.int (iI (dMi (zp p 3 (1 + (m : Int))) (-4) 3)))) ⟨by omega, by omega⟩ rfl ⟨J1, cR15_trip hR9 gf44, i3, Or.inr ⟨by omega, by rw [es]; exact i5.1, by rw [es]; exact i5.2.1, i5.2.2⟩⟩ (by omega) (by omega))
          | (have c : dMi (zp p 3 (1 + (m : Int))) (-4) 3 < s := c59
             have i5 : ¬ (sBI (fun v => dMi (zp p 3 v) (-4) 3) (fun m => 1 + (m : Int)) m).2 ≤ dMi (zp p 3 (1 + (m : Int))) (-4) 3 := by
               rcases i4 with z | z
               · have : (sBI (fun v => dMi (zp p 3 v) (-4) 3) (fun m => 1 + (m : Int)) m).2 = 1000000000 := by rw [z.1]; rfl
                 omega
               · omega
             rw [if_neg i5] at es
             exact ih (m + 1) g44 r9 (1 + (m : Int)) (1 + (m : Int)) (dMi (zp p 3 (1 + (m : Int))) (-4) 3) (some (.int (iI (dMi (zp p 3 (1 + (m : Int))) (-4) 3)))) ⟨by omega, by omega⟩ rfl ⟨J1, cR15_trip hR9 gf44, i3, Or.inr ⟨by omega, by rw [es], by rw [es], by omega, by omega⟩⟩ (by omega) (by omega))
theorem ct_bestGap11 {E : zE} {d : Nat} {k : Nat → Nat × Nat} {h : Nat → Int → Int} {r : Nat → Int → Option Nat} {l : Nat → Nat → Int64} {n : Nat} {p : Int → Int} (hs : pS p) (hR : cR 4 5 6 7 8 9 10 11 12 13 k h r n p (-4)) : zCT E (d + 10) M_X11_bestGap [.ref 3] (zJ (k, h, r, l, n)) 0 0 (zVx (.int (iI ((sBI (fun v => dMi (zp p 3 v) (-4) 3) (fun m => 1 + (m : Int)) 30).1))) (fun s => ∃ g r9, s = zJ (k, g, r9, l, n) ∧ cT h g ∧ (∀ q, ¬ q = 16 → r9 q = r q))) := by
  have ok := ok_X11_bestGap
  refine zCT_of pn_X11_bestGap (Nat.le_of_ble_eq_true rfl) ?_
  show zGo _ _ _ _ _ _ 0 ([some (.ref 3), none, none, none, none], [], _, _, _)
  have hp := hs.1
  have hft := hs.2.2.2.1
  have p60 := hp.2.2.2.2.2.2.2.2.2.2.2.2.1
  have p68 := hp.2.2.2.2.2.2.2.2.2.2.2.2.2.1
  have p00 := hp.1
  have p04 := hp.2.1
  have hf : ∀ q : Int, 0 ≤ q → q < p 6 → ¬ pFr p q = 4 := fun q q0 q1 => by have := pOf_gt hp q0 (by omega) (hft q q0 q1); omega
  refine s_ldA0 ok rfl ?_
  refine s_getF ok rfl rfl rfl rfl ?_
  refine s_ldA0 ok rfl ?_
  refine s_getF ok rfl rfl rfl rfl ?_
  refine s_callVvx ok rfl rfl rfl rfl rfl rfl (ct_become15_4 (d := d + 8) hR (by rw [cnP_4]; omega) p04) (fun σ8 hσ8 => ?_)
  obtain ⟨g8, r8, rfl, hg8⟩ := hσ8
  obtain ⟨f8, i3, hQ⟩ := hg8
  refine s_ci ok rfl ?_
  refine s_stI1 ok rfl rfl ?_
  refine s_ci ok rfl ?_
  refine s_stI2 ok rfl rfl ?_
  refine s_ci ok rfl ?_
  refine s_stI3 ok rfl rfl ?_
  exact lp_bestGap11 (E := E) (d := d) (k := k) (h := h) (r := r) (l := l) (n := n) hs hR 31 0 g8 r8 (p 3) 1 1000000 none ⟨hp.2.2.2.2.2.2.1, hp.2.2.2.2.2.2.2.1⟩ rfl ⟨fun q hq => f8 q (by omega), by rw [zp_id]; exact hQ, i3, Or.inl ⟨rfl, rfl, rfl⟩⟩ (by omega) (by omega)
