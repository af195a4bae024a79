/-! the class: judge -/
theorem ct_whereabouts {E : zE} {d : Nat} {k : Nat → Nat × Nat} {h : Nat → Int → Int} {r : Nat → Int → Option Nat} {l : Nat → Nat → Int64} {n : Nat} {p : Int → Int} (hs : pS p) (hR : cR 4 5 6 7 8 9 10 11 12 13 k h r n p (-4)) (hC : tC p (-4) h) (D : tD p (-4) 3 h) {t b : Int} (t0 : 0 ≤ t) (t1 : t < p 6) (b0 : 0 ≤ b) (b1 : b ≤ 100000) : zCT E (d + 5) M_X11_whereabouts [.ref 3, .int (iI (t)), .int (iI (b))] (zJ (k, h, r, l, n)) 0 0 (zV (.int (iI (sPA (dN p (-4) 3) p t b))) (zJ (k, h, r, l, n))) := by
  have ok := ok_X11_whereabouts
  refine zCT_of pn_X11_whereabouts (Nat.le_of_ble_eq_true rfl) ?_
  show zGo _ _ _ _ _ _ 0 ([some (.ref 3), some (.int (iI (t))), some (.int (iI (b)))], [], _, _, _)
  have hp := hs.1
  have hft := hs.2.2.2.1
  have p60 := hp.2.2.2.2.2.2.2.2.2.2.2.2.1
  have p68 := hp.2.2.2.2.2.2.2.2.2.2.2.2.2.1
  have p00 := hp.1
  have p04 := hp.2.1
  have hf : ∀ q : Int, 0 ≤ q → q < p 6 → ¬ pFr p q = 4 := fun q q0 q1 => by have := pOf_gt hp q0 (by omega) (hft q q0 q1); omega
  obtain ⟨v, hv, wv, h2, h3, h4⟩ := cR4_one hR t0 t1
  obtain ⟨⟨k0, k1⟩, ⟨f0, f1⟩, ⟨fr0, fr1⟩, ⟨to0, to1⟩, ⟨ba0, ba1⟩⟩ := hp.2.2.2.2.2.2.2.2.2.2.2.2.2.2.2.2 t t0 (by omega)
  obtain ⟨d1, d2, d3, d4, d5, d6, d7, d8, d9⟩ := tD_one D t0 t1
  have q70 := dQz_dN (dd := 3) (w := -4) hp ⟨by omega, by omega⟩ hft t t0 t1
  have w70 := dB_dN (dd := 3) (w := -4) hp ⟨by omega, by omega⟩ t
  have z44 : zb (h 44 t) := by
    rw [d1]
    split
    · exact ⟨by omega, by omega⟩
    · exact (dN_ok (dd := 3) hp (w := -4) ⟨by omega, by omega⟩).2.1 t
  have e38 : h 38 t = pCm p t := by
    have := (hC.2.1 t t0 (by rw [cnP_4]; exact t1)).1
    rw [sg_4] at this
    exact this
  have cm := pCm_b hp t0 (by omega)
  refine s_ldA0 ok rfl ?_
  refine s_getF ok rfl rfl rfl rfl ?_
  refine s_ldI1 ok rfl ?_
  refine s_callV ok rfl rfl rfl rfl rfl rfl (ct_arrives9 t0 (by omega) z44) ?_
  refine s_if_eq ok rfl zif10 (fun c8 => ?_) (fun c8 => ?_)
  · refine s_ldA0 ok rfl ?_
    refine s_getF ok rfl rfl rfl rfl ?_
    refine s_ldI1 ok rfl ?_
    refine s_callV ok rfl rfl rfl rfl rfl rfl (ct_arrives9 t0 (by omega) z44) ?_
    refine s_if_eq ok rfl zif10 (fun c54 => ?_) (fun c54 => ?_)
    · refine s_ldA0 ok rfl ?_
      refine s_getF ok rfl rfl rfl rfl ?_
      refine s_getF ok rfl rfl rfl rfl ?_
      refine s_ldI1 ok rfl ?_
      refine s_iald ok rfl (by exact rfl) (by exact rfl) (by omega) (by omega) ?_
      rw [e38]
      refine s_ldI2 ok rfl ?_
      refine s_c_gt ok rfl ⟨by omega, by omega⟩ ⟨by omega, by omega⟩ (fun c82 => ?_) (fun c82 => ?_)
      · refine s_ci ok rfl ?_
        first
          | (exfalso; omega)
          | (have no : ¬ (0 ≤ dN p (-4) 3 69 t ∧ dN p (-4) 3 70 t ≤ b) := by
               first
                 | omega
                 | (have y := d9.mp (zif_n c8); omega)
                 | (have y := d9.mp (zif_n c54); omega)
             first
               | exact s_retI ok rfl ⟨congrArg (fun z => some (Value.int (iI z))) (by unfold sPA; rw [if_neg no, if_pos (by omega)]), rfl⟩
               | exact s_retI ok rfl ⟨congrArg (fun z => some (Value.int (iI z))) (by unfold sPA; rw [if_neg no, if_neg (by omega)]; exact h2), rfl⟩)
      · refine s_ldA0 ok rfl ?_
        refine s_getF ok rfl rfl rfl rfl ?_
        refine s_getF ok rfl rfl rfl rfl ?_
        refine s_ldI1 ok rfl ?_
        refine s_iald ok rfl (by exact rfl) (by exact rfl) (by omega) (by omega) ?_
        refine s_goto ok rfl ?_
        first
          | (exfalso; omega)
          | (have no : ¬ (0 ≤ dN p (-4) 3 69 t ∧ dN p (-4) 3 70 t ≤ b) := by
               first
                 | omega
                 | (have y := d9.mp (zif_n c8); omega)
                 | (have y := d9.mp (zif_n c54); omega)
             first
               | exact s_retI ok rfl ⟨congrArg (fun z => some (Value.int (iI z))) (by unfold sPA; rw [if_neg no, if_pos (by omega)]), rfl⟩
               | exact s_retI ok rfl ⟨congrArg (fun z => some (Value.int (iI z))) (by unfold sPA; rw [if_neg no, if_neg (by omega)]; exact h2), rfl⟩)
    · have n69 : ¬ dN p (-4) 3 69 t < 0 := fun y => zif_m c54 (d9.mpr y)
      have n71 : 0 ≤ dN p (-4) 3 71 t := by
        by_cases y : dN p (-4) 3 71 t < 0
        · exact absurd (d8.mpr y) (zif_m c54)
        · omega
      obtain ⟨e45, e46, -, -⟩ := d2 (by omega)
      have le := (q70 (by omega)).2 n71
      refine s_ldA0 ok rfl ?_
      refine s_getF ok rfl rfl rfl rfl ?_
      refine s_getF ok rfl rfl rfl rfl ?_
      refine s_ldI1 ok rfl ?_
      refine s_iald ok rfl (by exact rfl) (by exact rfl) (by omega) (by omega) ?_
      rw [e45]
      refine s_ldI2 ok rfl ?_
      refine s_c_gt ok rfl ⟨by omega, by omega⟩ ⟨by omega, by omega⟩ (fun c67 => ?_) (fun c67 => ?_)
      · refine s_ldA0 ok rfl ?_
        refine s_getF ok rfl rfl rfl rfl ?_
        refine s_getF ok rfl rfl rfl rfl ?_
        refine s_ldI1 ok rfl ?_
        refine s_iald ok rfl (by exact rfl) (by exact rfl) (by omega) (by omega) ?_
        rw [e38]
        refine s_ldI2 ok rfl ?_
        refine s_c_gt ok rfl ⟨by omega, by omega⟩ ⟨by omega, by omega⟩ (fun c82 => ?_) (fun c82 => ?_)
        · refine s_ci ok rfl ?_
          first
            | (exfalso; omega)
            | (have no : ¬ (0 ≤ dN p (-4) 3 69 t ∧ dN p (-4) 3 70 t ≤ b) := by
                 first
                   | omega
                   | (have y := d9.mp (zif_n c8); omega)
                   | (have y := d9.mp (zif_n c54); omega)
               first
                 | exact s_retI ok rfl ⟨congrArg (fun z => some (Value.int (iI z))) (by unfold sPA; rw [if_neg no, if_pos (by omega)]), rfl⟩
                 | exact s_retI ok rfl ⟨congrArg (fun z => some (Value.int (iI z))) (by unfold sPA; rw [if_neg no, if_neg (by omega)]; exact h2), rfl⟩)
        · refine s_ldA0 ok rfl ?_
          refine s_getF ok rfl rfl rfl rfl ?_
          refine s_getF ok rfl rfl rfl rfl ?_
          refine s_ldI1 ok rfl ?_
          refine s_iald ok rfl (by exact rfl) (by exact rfl) (by omega) (by omega) ?_
          refine s_goto ok rfl ?_
          first
            | (exfalso; omega)
            | (have no : ¬ (0 ≤ dN p (-4) 3 69 t ∧ dN p (-4) 3 70 t ≤ b) := by
                 first
                   | omega
                   | (have y := d9.mp (zif_n c8); omega)
                   | (have y := d9.mp (zif_n c54); omega)
               first
                 | exact s_retI ok rfl ⟨congrArg (fun z => some (Value.int (iI z))) (by unfold sPA; rw [if_neg no, if_pos (by omega)]), rfl⟩
                 | exact s_retI ok rfl ⟨congrArg (fun z => some (Value.int (iI z))) (by unfold sPA; rw [if_neg no, if_neg (by omega)]; exact h2), rfl⟩)
      · refine s_ci ok rfl ?_
        exact s_retI ok rfl ⟨congrArg (fun z => some (Value.int (iI z))) (by unfold sPA; rw [if_pos ⟨by omega, by omega⟩, if_neg (by omega)]), rfl⟩
  · have n69 : ¬ dN p (-4) 3 69 t < 0 := fun y => zif_m c8 (d9.mpr y)
    have n71 : 0 ≤ dN p (-4) 3 71 t := by
      by_cases y : dN p (-4) 3 71 t < 0
      · exact absurd (d8.mpr y) (zif_m c8)
      · omega
    obtain ⟨e45, e46, -, -⟩ := d2 (by omega)
    have le := (q70 (by omega)).2 n71
    refine s_ldA0 ok rfl ?_
    refine s_getF ok rfl rfl rfl rfl ?_
    refine s_getF ok rfl rfl rfl rfl ?_
    refine s_ldI1 ok rfl ?_
    refine s_iald ok rfl (by exact rfl) (by exact rfl) (by omega) (by omega) ?_
    rw [e46]
    refine s_ldI2 ok rfl ?_
    refine s_c_gt ok rfl ⟨by omega, by omega⟩ ⟨by omega, by omega⟩ (fun c21 => ?_) (fun c21 => ?_)
    · refine s_ldA0 ok rfl ?_
      refine s_getF ok rfl rfl rfl rfl ?_
      refine s_ldI1 ok rfl ?_
      refine s_callV ok rfl rfl rfl rfl rfl rfl (ct_arrives9 t0 (by omega) z44) ?_
      refine s_if_eq ok rfl zif10 (fun c54 => ?_) (fun c54 => ?_)
      · refine s_ldA0 ok rfl ?_
        refine s_getF ok rfl rfl rfl rfl ?_
        refine s_getF ok rfl rfl rfl rfl ?_
        refine s_ldI1 ok rfl ?_
        refine s_iald ok rfl (by exact rfl) (by exact rfl) (by omega) (by omega) ?_
        rw [e38]
        refine s_ldI2 ok rfl ?_
        refine s_c_gt ok rfl ⟨by omega, by omega⟩ ⟨by omega, by omega⟩ (fun c82 => ?_) (fun c82 => ?_)
        · refine s_ci ok rfl ?_
          first
            | (exfalso; omega)
            | (have no : ¬ (0 ≤ dN p (-4) 3 69 t ∧ dN p (-4) 3 70 t ≤ b) := by
                 first
                   | omega
                   | (have y := d9.mp (zif_n c8); omega)
                   | (have y := d9.mp (zif_n c54); omega)
               first
                 | exact s_retI ok rfl ⟨congrArg (fun z => some (Value.int (iI z))) (by unfold sPA; rw [if_neg no, if_pos (by omega)]), rfl⟩
                 | exact s_retI ok rfl ⟨congrArg (fun z => some (Value.int (iI z))) (by unfold sPA; rw [if_neg no, if_neg (by omega)]; exact h2), rfl⟩)
        · refine s_ldA0 ok rfl ?_
          refine s_getF ok rfl rfl rfl rfl ?_
          refine s_getF ok rfl rfl rfl rfl ?_
          refine s_ldI1 ok rfl ?_
          refine s_iald ok rfl (by exact rfl) (by exact rfl) (by omega) (by omega) ?_
          refine s_goto ok rfl ?_
          first
            | (exfalso; omega)
            | (have no : ¬ (0 ≤ dN p (-4) 3 69 t ∧ dN p (-4) 3 70 t ≤ b) := by
                 first
                   | omega
                   | (have y := d9.mp (zif_n c8); omega)
                   | (have y := d9.mp (zif_n c54); omega)
               first
                 | exact s_retI ok rfl ⟨congrArg (fun z => some (Value.int (iI z))) (by unfold sPA; rw [if_neg no, if_pos (by omega)]), rfl⟩
                 | exact s_retI ok rfl ⟨congrArg (fun z => some (Value.int (iI z))) (by unfold sPA; rw [if_neg no, if_neg (by omega)]; exact h2), rfl⟩)
      · have n69 : ¬ dN p (-4) 3 69 t < 0 := fun y => zif_m c54 (d9.mpr y)
        have n71 : 0 ≤ dN p (-4) 3 71 t := by
          by_cases y : dN p (-4) 3 71 t < 0
          · exact absurd (d8.mpr y) (zif_m c54)
          · omega
        obtain ⟨e45, e46, -, -⟩ := d2 (by omega)
        have le := (q70 (by omega)).2 n71
        refine s_ldA0 ok rfl ?_
        refine s_getF ok rfl rfl rfl rfl ?_
        refine s_getF ok rfl rfl rfl rfl ?_
        refine s_ldI1 ok rfl ?_
        refine s_iald ok rfl (by exact rfl) (by exact rfl) (by omega) (by omega) ?_
        rw [e45]
        refine s_ldI2 ok rfl ?_
        refine s_c_gt ok rfl ⟨by omega, by omega⟩ ⟨by omega, by omega⟩ (fun c67 => ?_) (fun c67 => ?_)
        · refine s_ldA0 ok rfl ?_
          refine s_getF ok rfl rfl rfl rfl ?_
          refine s_getF ok rfl rfl rfl rfl ?_
          refine s_ldI1 ok rfl ?_
          refine s_iald ok rfl (by exact rfl) (by exact rfl) (by omega) (by omega) ?_
          rw [e38]
          refine s_ldI2 ok rfl ?_
          refine s_c_gt ok rfl ⟨by omega, by omega⟩ ⟨by omega, by omega⟩ (fun c82 => ?_) (fun c82 => ?_)
          · refine s_ci ok rfl ?_
            first
              | (exfalso; omega)
              | (have no : ¬ (0 ≤ dN p (-4) 3 69 t ∧ dN p (-4) 3 70 t ≤ b) := by
                   first
                     | omega
                     | (have y := d9.mp (zif_n c8); omega)
                     | (have y := d9.mp (zif_n c54); omega)
                 first
                   | exact s_retI ok rfl ⟨congrArg (fun z => some (Value.int (iI z))) (by unfold sPA; rw [if_neg no, if_pos (by omega)]), rfl⟩
                   | exact s_retI ok rfl ⟨congrArg (fun z => some (Value.int (iI z))) (by unfold sPA; rw [if_neg no, if_neg (by omega)]; exact h2), rfl⟩)
          · refine s_ldA0 ok rfl ?_
            refine s_getF ok rfl rfl rfl rfl ?_
            refine s_getF ok rfl rfl rfl rfl ?_
            refine s_ldI1 ok rfl ?_
            refine s_iald ok rfl (by exact rfl) (by exact rfl) (by omega) (by omega) ?_
            refine s_goto ok rfl ?_
            first
              | (exfalso; omega)
              | (have no : ¬ (0 ≤ dN p (-4) 3 69 t ∧ dN p (-4) 3 70 t ≤ b) := by
                   first
                     | omega
                     | (have y := d9.mp (zif_n c8); omega)
                     | (have y := d9.mp (zif_n c54); omega)
                 first
                   | exact s_retI ok rfl ⟨congrArg (fun z => some (Value.int (iI z))) (by unfold sPA; rw [if_neg no, if_pos (by omega)]), rfl⟩
                   | exact s_retI ok rfl ⟨congrArg (fun z => some (Value.int (iI z))) (by unfold sPA; rw [if_neg no, if_neg (by omega)]; exact h2), rfl⟩)
        · refine s_ci ok rfl ?_
          exact s_retI ok rfl ⟨congrArg (fun z => some (Value.int (iI z))) (by unfold sPA; rw [if_pos ⟨by omega, by omega⟩, if_neg (by omega)]), rfl⟩
    · refine s_ldA0 ok rfl ?_
      refine s_getF ok rfl rfl rfl rfl ?_
      refine s_getF ok rfl rfl rfl rfl ?_
      refine s_ldI1 ok rfl ?_
      refine s_aald ok rfl (by exact rfl) (by exact rfl) (by exact rfl) (by omega) (by omega) hv ?_
      refine s_ldA0 ok rfl ?_
      refine s_getF ok rfl rfl rfl rfl ?_
      refine s_getF ok rfl rfl rfl rfl ?_
      refine s_ldI1 ok rfl ?_
      refine s_iald ok rfl (by exact rfl) (by exact rfl) (by omega) (by omega) ?_
      rw [h3]
      refine s_callD ok rfl rfl rfl rfl (vt_offAt wv (by omega) (by omega)) ?_
      exact s_retI ok rfl ⟨congrArg (fun z => some (Value.int (iI z))) (by unfold sPA; rw [if_pos ⟨by omega, by omega⟩, if_pos (by omega)]; rfl), rfl⟩
theorem lp_judge11 {E : zE} {d : Nat} {k : Nat → Nat × Nat} {h : Nat → Int → Int} {r : Nat → Int → Option Nat} {l : Nat → Nat → Int64} {n : Nat} {F : (Nat → Int → Int) → Prop} {p : Int → Int} (hs : pS p) (hR : cR 4 5 6 7 8 9 10 11 12 13 k h r n p (-4)) {t x : Int} (t0 : 0 ≤ t) (t1 : t < p 6) {w : Nat} (hw : rw_ k h r w (w + 1) (h 84 x).toNat (h 83 x)) (w0 : 87 ≤ w) (s0 : 0 ≤ h 84 x) (hz : ∀ j, zb (h (w + 1) j)) (he : ∀ j, 0 ≤ j → j < h 84 x → h (w + 1) j = h 85 (100 * x + j)) (s1 : h 84 x ≤ 100) {g : Nat → Int → Int} (ehi : ∀ q : Nat, 54 < q → g q = h q) (hR2 : cR 4 5 6 7 8 9 10 11 12 13 k g r n p (-4)) (hC : tC p (-4) g) (D : tD p (-4) 3 g) (hF : F g) : ∀ c : Nat, ∀ (m : Nat) (u : Option Value), sFst (sJw h (dN p (-4) 3) p t x) m = m → (h 84 x).toNat < m + c → m ≤ (h 84 x).toNat → zGo E (d + 9) M_X11_judge 0 0 (zVx (.int (iI (if sFst (sJw h (dN p (-4) 3) p t x) (h 84 x).toNat = (h 84 x).toNat then -4 else sFst (sJw h (dN p (-4) 3) p t x) (h 84 x).toNat))) (zG k r l n F)) 48 ([some (.ref 3), some (.int (iI (t))), some (.int (iI (x))), u, some (.ref w), some (.int (iI ((m : Int))))], [], zJ (k, g, r, l, n), 0, 0) := by
  have ok := ok_X11_judge
  have hw9 : rw_ k g r w (w + 1) (h 84 x).toNat (h 83 x) := rw_fr hw (ehi w (by omega)) rfl
  have hz9 : ∀ j, zb (g (w + 1) j) := fun j => by rw [ehi (w + 1) (by omega)]; exact hz j
  intro c
  induction c with
  | zero =>
    intros
    omega
  | succ c ih =>
    intro m u hm g1 g2
    have eL : ((h 84 x).toNat : Int) = h 84 x := by omega
    have hp := hs.1
    have hft := hs.2.2.2.1
    have p60 := hp.2.2.2.2.2.2.2.2.2.2.2.2.1
    have p68 := hp.2.2.2.2.2.2.2.2.2.2.2.2.2.1
    have p00 := hp.1
    have p04 := hp.2.1
    have hf : ∀ q : Int, 0 ≤ q → q < p 6 → ¬ pFr p q = 4 := fun q q0 q1 => by have := pOf_gt hp q0 (by omega) (hft q q0 q1); omega
    refine s_ldI5 ok rfl ?_
    refine s_ldA4 ok rfl ?_
    refine s_callV ok rfl rfl rfl rfl hw9.1 rfl (ct_rsize hw9) ?_
    refine s_c_ge ok rfl ⟨by omega, by omega⟩ ⟨by omega, by omega⟩ (fun c55 => ?_) (fun c55 => ?_)
    · refine s_ci ok rfl ?_
      have em : m = (h 84 x).toNat := by omega
      refine s_retI ok rfl ⟨congrArg (fun z => some (Value.int (iI z))) ?_, g, rfl, hF⟩
      rw [← em, hm, if_pos rfl]
    · have ce : tc (g (w + 1)) (h 84 x).toNat (m : Int) = h 85 (100 * x + (m : Int)) := by
        rw [tc_in (by omega) (by omega), ehi (w + 1) (by omega)]
        exact he (m : Int) (by omega) (by omega)
      refine s_ldA4 ok rfl ?_
      refine s_ldI5 ok rfl ?_
      refine s_callV ok rfl rfl rfl rfl hw9.1 rfl (ct_risSkipped hw9 ⟨by omega, by omega⟩ hz9) ?_
      refine s_if_eq ok rfl zif01 (fun c65 => ?_) (fun c65 => ?_)
      · refine s_ldA4 ok rfl ?_
        refine s_ldI5 ok rfl ?_
        refine s_callV ok rfl rfl rfl rfl hw9.1 rfl (ct_rat hw9 ⟨by omega, by omega⟩) ?_
        refine s_ldA0 ok rfl ?_
        refine s_ldI1 ok rfl ?_
        refine s_ci ok rfl ?_
        refine s_ldI5 ok rfl ?_
        refine s_mul ok rfl ?_
        refine s_callV ok rfl rfl rfl rfl rfl rfl (ct_whereabouts hs hR2 hC D t0 t1 (by omega) (by omega)) ?_
        refine s_c_eq ok rfl (by rw [ce]; rw [← he (m : Int) (by omega) (by omega)]; exact hz _) (sPA_zb hs.1 t0 (by omega)) (fun c85 => ?_) (fun c85 => ?_)
        · refine s_inc5 ok rfl rfl ?_
          refine s_goto ok rfl ?_
          refine ih (m + 1) u (sFst_no hm fun q => ?_) (by omega) (by omega)
          have q := of_decide_eq_true q
          first
            | exact q.1 (by rw [← ce]; exact zif_t c65)
            | (refine q.2 ?_
               rw [← ce]
               exact c85)
        · refine s_ldI5 ok rfl ?_
          have hw5 : (sJw h (dN p (-4) 3) p t x) (m : Int) = true := decide_eq_true ⟨fun q => zif_f c65 (by rw [ce]; exact q), fun q => c85 (by rw [ce]; exact q)⟩
          have ht9 := sFst_hit (c := (h 84 x).toNat) hm hw5 (by omega)
          exact s_retI ok rfl ⟨congrArg (fun z => some (Value.int (iI z))) (by rw [ht9, if_neg (by omega)]), g, rfl, hF⟩
      · refine s_inc5 ok rfl rfl ?_
        refine s_goto ok rfl ?_
        refine ih (m + 1) u (sFst_no hm fun q => ?_) (by omega) (by omega)
        have q := of_decide_eq_true q
        first
          | exact q.1 (by rw [← ce]; exact zif_t c65)
          | (refine q.2 ?_
             rw [← ce]
             exact c85)
theorem ct_judge11 {E : zE} {d : Nat} {k : Nat → Nat × Nat} {h : Nat → Int → Int} {r : Nat → Int → Option Nat} {l : Nat → Nat → Int64} {n : Nat} {p : Int → Int} (hs : pS p) (hR : cR 4 5 6 7 8 9 10 11 12 13 k h r n p (-4)) (hc : cSh k h r n) {t x : Int} (zt : zb t) (zx : zb x) : zCT E (d + 9) M_X11_judge [.ref 3, .int (iI (t)), .int (iI (x))] (zJ (k, h, r, l, n)) 0 0 (zVx (.int (iI (if 0 ≤ t ∧ t < p 6 then (if sWR h x (-1) = 0 then (if sFst (sJw h (dN p (-4) 3) p t x) (h 84 x).toNat = (h 84 x).toNat then -4 else sFst (sJw h (dN p (-4) 3) p t x) (h 84 x).toNat) else sWR h x (-1)) else -1))) (zG k r l n (cF h))) := by
  have ok := ok_X11_judge
  refine zCT_of pn_X11_judge (Nat.le_of_ble_eq_true rfl) ?_
  show zGo _ _ _ _ _ _ 0 ([some (.ref 3), some (.int (iI (t))), some (.int (iI (x))), none, none, none], [], _, _, _)
  have hp := hs.1
  have hft := hs.2.2.2.1
  have p60 := hp.2.2.2.2.2.2.2.2.2.2.2.2.1
  have p68 := hp.2.2.2.2.2.2.2.2.2.2.2.2.2.1
  have p00 := hp.1
  have p04 := hp.2.1
  have hf : ∀ q : Int, 0 ≤ q → q < p 6 → ¬ pFr p q = 4 := fun q q0 q1 => by have := pOf_gt hp q0 (by omega) (hft q q0 q1); omega
  refine s_ldA0 ok rfl ?_
  refine s_getF ok rfl rfl rfl rfl ?_
  refine s_ldI1 ok rfl ?_
  refine s_callV ok rfl rfl rfl rfl rfl rfl (ct_isPerson4 (cR4_n hR) p60 p68 zt) ?_
  refine s_if_eq ok rfl zif01 (fun c8 => ?_) (fun c8 => ?_)
  · refine s_ci ok rfl ?_
    exact s_retI ok rfl ⟨congrArg (fun z => some (Value.int (iI z))) (if_neg (zif_f c8)).symm, _, rfl, fun _ _ => rfl⟩
  · have yt := zif_t c8
    refine s_ldA0 ok rfl ?_
    refine s_ldI2 ok rfl ?_
    refine s_callV ok rfl rfl rfl rfl rfl rfl (ct_rRow hc zx) ?_
    refine s_stI3 ok rfl rfl ?_
    refine s_ldI3 ok rfl ?_
    refine s_if_eq ok rfl sWR_z (fun c20 => ?_) (fun c20 => ?_)
    · obtain ⟨⟨x0, x1⟩, h80, r5, w, r6, hw, ⟨w0, w1⟩, ⟨s0, s1⟩, hz, he, hrg⟩ := cSh_w hc c20
      refine s_ldA0 ok rfl ?_
      refine s_getF ok rfl rfl rfl rfl ?_
      refine s_ldI2 ok rfl ?_
      refine s_aald ok rfl (by exact rfl) (by exact rfl) (by exact rfl) (by omega) (by omega) r6 ?_
      refine s_stA4 ok rfl rfl ?_
      refine s_ldA0 ok rfl ?_
      refine s_getF ok rfl rfl rfl rfl ?_
      refine s_ldA0 ok rfl ?_
      refine s_getF ok rfl rfl rfl rfl ?_
      refine s_ci ok rfl ?_
      refine s_callVvx ok rfl rfl rfl rfl rfl rfl (ct_go4 (d := d) (p := p) (w := -4) (dd := 3) hp (Or.inr rfl) (Or.inl rfl) hf hR) (fun σ42 hσ42 => ?_)
      obtain ⟨g42, rfl, hg42⟩ := hσ42
      obtain ⟨gf42, -, gC42, gT42, gS42⟩ := hg42
      have D42 := tD_of hp (Or.inl rfl) hft gT42 gS42
      refine s_ci ok rfl ?_
      refine s_stI5 ok rfl rfl ?_
      rw [if_pos yt, if_pos c20]
      exact lp_judge11 (E := E) (d := d) (k := k) (h := h) (r := r) (l := l) (n := n) hs hR yt.1 yt.2 hw w0 s0 hz he s1 (g := g42) (fun q hq => gf42 q (by omega)) (cR4_trip hR (fun q hq => gf42 q hq)) gC42 D42 (fun q hq => gf42 q (by omega)) ((h 84 x).toNat + 1) 0 _ rfl (by omega) (by omega)
    · refine s_ldI3 ok rfl ?_
      exact s_retI ok rfl ⟨congrArg (fun z => some (Value.int (iI z))) (by rw [if_pos yt, if_neg c20]), _, rfl, fun _ _ => rfl⟩
