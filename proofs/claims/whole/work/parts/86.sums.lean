/-! the class: sums -/
theorem zsum_1 {f g : Int → Int} : ∀ n : Nat, (∀ j : Int, 0 ≤ j → j < n → f j + g j = 1) → (n : Int) - zsum f n = zsum g n
  | 0, _ => rfl
  | n + 1, h => by
    have i := zsum_1 n (fun j j0 j1 => h j j0 (by omega))
    have e := h n (by omega) (by omega)
    show ((n + 1 : Nat) : Int) - (zsum f n + f n) = zsum g n + g n
    omega
theorem zmxs_cg2 {f g : Int → Int} : ∀ n : Nat, (∀ j : Int, 0 ≤ j → j < n → f j = g j ∨ (f j = 0 ∧ g j < 0)) → zmxs f n = zmxs g n
  | 0, _ => rfl
  | n + 1, h => by
    have i := zmxs_cg2 n (fun j j0 j1 => h j j0 (by omega))
    have e := h n (by omega) (by omega)
    have z := zmxs_0 (f := g) n
    show max (zmxs f n) (f n) = max (zmxs g n) (g n)
    rw [i]
    omega
theorem ct_sums11 {E : zE} {d : Nat} {k : Nat → Nat × Nat} {h : Nat → Int → Int} {r : Nat → Int → Option Nat} {l : Nat → Nat → Int64} {n : Nat} {p : Int → Int} (hs : pS p) (hR : cR 4 5 6 7 8 9 10 11 12 13 k h r n p (-4)) {a : Int} (za : zb a) : zCT E (d + 9) M_X11_sums [.ref 3, .int (iI (a))] (zJ (k, h, r, l, n)) 0 0 (zVx (.int (iI (if 0 ≤ a ∧ a ≤ 5 then (if a = 5 then zmxs (dN p (-4) 3 71) (p 6).toNat else zsum (sSm (dN p (-4) 3) p a) (p 6).toNat) else -1))) (zG k r l n (cF h))) := by
  have ok := ok_X11_sums
  refine zCT_of pn_X11_sums (Nat.le_of_ble_eq_true rfl) ?_
  show zGo _ _ _ _ _ _ 0 ([some (.ref 3), some (.int (iI (a)))], [], _, _, _)
  have hp := hs.1
  have hft := hs.2.2.2.1
  have p60 := hp.2.2.2.2.2.2.2.2.2.2.2.2.1
  have p68 := hp.2.2.2.2.2.2.2.2.2.2.2.2.2.1
  have p00 := hp.1
  have p04 := hp.2.1
  have hf : ∀ q : Int, 0 ≤ q → q < p 6 → ¬ pFr p q = 4 := fun q q0 q1 => by have := pOf_gt hp q0 (by omega) (hft q q0 q1); omega
  refine s_ldI1 ok rfl ?_
  refine s_if_lt ok rfl za (fun c1 => ?_) (fun c1 => ?_)
  · refine s_ci ok rfl ?_
    first
      | exact s_retI ok rfl ⟨congrArg (fun z => some (Value.int (iI z))) (if_neg (fun q => absurd q.1 (by omega))).symm, _, rfl, fun _ _ => rfl⟩
      | exact s_retI ok rfl ⟨congrArg (fun z => some (Value.int (iI z))) (if_neg (fun q => absurd q.2 (by omega))).symm, _, rfl, fun _ _ => rfl⟩
  · refine s_ldI1 ok rfl ?_
    refine s_ci ok rfl ?_
    refine s_c_le ok rfl za ⟨by omega, by omega⟩ (fun c6 => ?_) (fun c6 => ?_)
    · have yes : 0 ≤ a ∧ a ≤ 5 := ⟨by omega, by omega⟩
      refine s_ldA0 ok rfl ?_
      refine s_getF ok rfl rfl rfl rfl ?_
      refine s_ldA0 ok rfl ?_
      refine s_getF ok rfl rfl rfl rfl ?_
      refine s_ci ok rfl ?_
      refine s_callVvx ok rfl rfl rfl rfl rfl rfl (ct_go4 (d := d) (p := p) (w := -4) (dd := 3) hp (Or.inr rfl) (Or.inl rfl) hf hR) (fun σ20 hσ20 => ?_)
      obtain ⟨g20, rfl, hg20⟩ := hσ20
      obtain ⟨gf, -, gC, gT, gS⟩ := hg20
      have D := tD_of hp (Or.inl rfl) hft gT gS
      have e37 : g20 37 6 = p 6 := gC.1.trans cnP_4
      have hz44 : ∀ t : Int, 0 ≤ t → t < p 6 → zb (g20 44 t) := fun t t0 t1 => by
        rw [(tD_one D t0 t1).1]
        split
        · exact ⟨by omega, by omega⟩
        · exact (dN_ok (dd := 3) hp (w := -4) ⟨by omega, by omega⟩).2.1 t
      have DA : ∀ t : Int, 0 ≤ t → t < p 6 → tO g20 t = zOn (dN p (-4) 3) t ∧ tL g20 t = (if dN p (-4) 3 71 t < 0 then 0 else dN p (-4) 3 71 t) := fun t t0 t1 => by
        have := tD_a D (t := t) t0 (by rw [cnP_4]; exact t1)
        rw [sg_4] at this
        exact ⟨this.2.1, this.2.2.1⟩
      have n0 : ((p 6).toNat : Int) = p 6 := by omega
      have eA : zsum (tO g20) (p 6).toNat = zsum (sSm (dN p (-4) 3) p 0) (p 6).toNat := zsum_cg _ fun t t0 t1 => by
        rw [(DA t t0 (by omega)).1]
        unfold zOn sSm
        rw [if_pos rfl]
        by_cases c : dN p (-4) 3 71 t < 0
        · rw [if_pos c, if_neg (by omega)]
        · rw [if_neg c, if_pos (by omega)]
      have e1 : p 6 - zsum (tO g20) (p 6).toNat = zsum (sSm (dN p (-4) 3) p 1) (p 6).toNat := by
        rw [eA, ← n0]
        refine zsum_1 _ fun t t0 t1 => ?_
        unfold sSm
        rw [if_pos rfl, if_neg (show ¬ (1 : Int) = 0 by omega), if_pos rfl]
        split <;> rfl
      have eL : zmxs (tL g20) (p 6).toNat = zmxs (dN p (-4) 3 71) (p 6).toNat := zmxs_cg2 _ fun t t0 t1 => by
        rw [(DA t t0 (by omega)).2]
        split
        · rename_i c
          exact Or.inr ⟨rfl, c⟩
        · exact Or.inl rfl
      have zL : ∀ t : Int, 0 ≤ t → t < ((p 6).toNat : Int) → zb (tL g20 t) := fun t t0 t1 => by
        rw [(DA t t0 (by omega)).2]
        split
        · exact ⟨by omega, by omega⟩
        · exact (dN_ok (dd := 3) hp (w := -4) ⟨by omega, by omega⟩).2.2.1 t
      have hR9 := cR4_trip hR (g := g20) (fun q hq => gf q hq)
      refine s_ldI1 ok rfl ?_
      refine s_sw ok rfl ?_
      refine zsw_c za (by first | exact hb _ _ | exact ⟨by omega, by omega⟩) (fun c24 => ?_) (fun c24_0 => ?_)
      · refine s_ldA0 ok rfl ?_
        refine s_getF ok rfl rfl rfl rfl ?_
        refine s_callV ok rfl rfl rfl rfl rfl rfl (ct_arriving9 (h := g20) (cn := (p 6).toNat) (by rw [e37]; omega) (by omega) (fun t t0 t1 => hz44 t t0 (by omega))) ?_
        exact s_retI ok rfl ⟨congrArg (fun z => some (Value.int (iI z))) (by rw [if_pos yes, if_neg (by omega), c24]; exact eA), _, rfl, gf⟩
      refine zsw_c za (by first | exact hb _ _ | exact ⟨by omega, by omega⟩) (fun c24 => ?_) (fun c24_1 => ?_)
      · refine s_ldA0 ok rfl ?_
        refine s_getF ok rfl rfl rfl rfl ?_
        refine s_getJ 0 ok rfl rfl rfl rfl ?_
        rw [show g20 4 0 = p 6 from cR4_n hR9]
        refine s_ldA0 ok rfl ?_
        refine s_getF ok rfl rfl rfl rfl ?_
        refine s_callV ok rfl rfl rfl rfl rfl rfl (ct_arriving9 (h := g20) (cn := (p 6).toNat) (by rw [e37]; omega) (by omega) (fun t t0 t1 => hz44 t t0 (by omega))) ?_
        refine s_sub ok rfl ?_
        exact s_retI ok rfl ⟨congrArg (fun z => some (Value.int (iI z))) (by rw [if_pos yes, if_neg (by omega), c24]; exact e1), _, rfl, gf⟩
      refine zsw_c za (by first | exact hb _ _ | exact ⟨by omega, by omega⟩) (fun c24 => ?_) (fun c24_2 => ?_)
      · refine s_ldA0 ok rfl ?_
        refine s_callV ok rfl rfl rfl rfl rfl rfl (ct_allMissed (d := d + 4) hs hR9 gC D) ?_
        exact s_retI ok rfl ⟨congrArg (fun z => some (Value.int (iI z))) (by rw [if_pos yes, if_neg (by omega), c24]), _, rfl, gf⟩
      refine zsw_c za (by first | exact hb _ _ | exact ⟨by omega, by omega⟩) (fun c24 => ?_) (fun c24_3 => ?_)
      · refine s_ldA0 ok rfl ?_
        refine s_callV ok rfl rfl rfl rfl rfl rfl (ct_allWaited (d := d + 4) hs hR9 gC D) ?_
        exact s_retI ok rfl ⟨congrArg (fun z => some (Value.int (iI z))) (by rw [if_pos yes, if_neg (by omega), c24]), _, rfl, gf⟩
      refine zsw_c za (by first | exact hb _ _ | exact ⟨by omega, by omega⟩) (fun c24 => ?_) (fun c24_4 => ?_)
      · refine s_ldA0 ok rfl ?_
        refine s_callV ok rfl rfl rfl rfl rfl rfl (ct_allRefunds (d := d + 2) hs hR9 gC D) ?_
        exact s_retI ok rfl ⟨congrArg (fun z => some (Value.int (iI z))) (by rw [if_pos yes, if_neg (by omega), c24]), _, rfl, gf⟩
      show zGo _ _ _ _ _ _ 99 _
      refine s_ldA0 ok rfl ?_
      refine s_getF ok rfl rfl rfl rfl ?_
      refine s_callV ok rfl rfl rfl rfl rfl rfl (ct_latest9 (h := g20) (cn := (p 6).toNat) (by rw [e37]; omega) (by omega) (fun t t0 t1 => hz44 t t0 (by omega)) zL) ?_
      exact s_retI ok rfl ⟨congrArg (fun z => some (Value.int (iI z))) (by rw [if_pos yes, if_pos (by omega)]; exact eL), _, rfl, gf⟩
    · refine s_ci ok rfl ?_
      first
        | exact s_retI ok rfl ⟨congrArg (fun z => some (Value.int (iI z))) (if_neg (fun q => absurd q.1 (by omega))).symm, _, rfl, fun _ _ => rfl⟩
        | exact s_retI ok rfl ⟨congrArg (fun z => some (Value.int (iI z))) (if_neg (fun q => absurd q.2 (by omega))).symm, _, rfl, fun _ _ => rfl⟩
