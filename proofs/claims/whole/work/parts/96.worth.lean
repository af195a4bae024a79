/-! the class: worth -/
theorem ct_worth11 {E : zE} {d : Nat} {k : Nat → Nat × Nat} {h : Nat → Int → Int} {r : Nat → Int → Option Nat} {l : Nat → Nat → Int64} {n : Nat} {p : Int → Int} (hs : pS p) (hR : cR 4 5 6 7 8 9 10 11 12 13 k h r n p (-4)) : zCT E (d + 10) M_X11_worth [.ref 3] (zJ (k, h, r, l, n)) 0 0 (zVx (.int (iI (dMi p (-4) 3))) (zG k r l n (cF h))) := by
  have ok := ok_X11_worth
  refine zCT_of pn_X11_worth (Nat.le_of_ble_eq_true rfl) ?_
  show zGo _ _ _ _ _ _ 0 ([some (.ref 3)], [], _, _, _)
  have hp := hs.1
  have hft := hs.2.2.2.1
  have p60 := hp.2.2.2.2.2.2.2.2.2.2.2.2.1
  have p68 := hp.2.2.2.2.2.2.2.2.2.2.2.2.2.1
  have p00 := hp.1
  have p04 := hp.2.1
  have hf : ∀ q : Int, 0 ≤ q → q < p 6 → ¬ pFr p q = 4 := fun q q0 q1 => by have := pOf_gt hp q0 (by omega) (hft q q0 q1); omega
  refine s_ldA0 ok rfl ?_
  refine s_getF ok rfl rfl rfl rfl ?_
  refine s_ldA0 ok rfl ?_
  refine s_getF ok rfl rfl rfl rfl ?_
  refine s_ci ok rfl ?_
  refine s_callVvx ok rfl rfl rfl rfl rfl rfl (ct_go4 (d := d + 1) (p := p) (w := -4) (dd := 3) hp (Or.inr rfl) (Or.inl rfl) hf hR) (fun σ9 hσ9 => ?_)
  obtain ⟨g9, rfl, hg9⟩ := hσ9
  obtain ⟨gf, -, gC, gT, gS⟩ := hg9
  have D := tD_of hp (Or.inl rfl) hft gT gS
  have e37 : g9 37 6 = p 6 := gC.1.trans cnP_4
  have hz44 : ∀ t : Int, 0 ≤ t → t < p 6 → zb (g9 44 t) := fun t t0 t1 => by
    rw [(tD_one D t0 t1).1]
    split
    · exact ⟨by omega, by omega⟩
    · exact (dN_ok (dd := 3) hp (w := -4) ⟨by omega, by omega⟩).2.1 t
  refine s_ldA0 ok rfl ?_
  refine s_getF ok rfl rfl rfl rfl ?_
  refine s_callV ok rfl rfl rfl rfl rfl rfl (ct_allArrivals9 (h := g9) (cn := (p 6).toNat) (by rw [e37]; omega) (by omega) (fun t t0 t1 => hz44 t t0 (by omega))) ?_
  refine s_retI ok rfl ⟨congrArg (fun z => some (Value.int (iI z))) (?_), _, rfl, gf⟩
  unfold dMi
  refine zsum_cg _ fun t t0 t1 => ?_
  have := (tD_a D (t := t) t0 (by rw [cnP_4]; omega)).1
  rw [sg_4] at this
  exact this
