/-! the class: count, cancels -/
theorem ct_count11 {E : zE} {d : Nat} {k : Nat → Nat × Nat} {h : Nat → Int → Int} {r : Nat → Int → Option Nat} {l : Nat → Nat → Int64} {n : Nat} {p : Int → Int} (hs : pS p) (hR : cR 4 5 6 7 8 9 10 11 12 13 k h r n p (-4)) {a : Int} (za : zb a) : zCT E (d + 1) M_X11_count [.ref 3, .int (iI (a))] (zJ (k, h, r, l, n)) 0 0 (zV (.int (iI (sCo p a))) (zJ (k, h, r, l, n))) := by
  have ok := ok_X11_count
  refine zCT_of pn_X11_count (Nat.le_of_ble_eq_true rfl) ?_
  show zGo _ _ _ _ _ _ 0 ([some (.ref 3), some (.int (iI (a)))], [], _, _, _)
  have hp := hs.1
  have hft := hs.2.2.2.1
  have p60 := hp.2.2.2.2.2.2.2.2.2.2.2.2.1
  have p68 := hp.2.2.2.2.2.2.2.2.2.2.2.2.2.1
  have p00 := hp.1
  have p04 := hp.2.1
  have r0 : h 12 0 = p 7 := (hR.2.2.2.2.2 0 (by omega) (by omega)).1
  have r1 : h 12 1 = p 8 := (hR.2.2.2.2.2 1 (by omega) (by omega)).1
  have r2 : h 12 2 = p 9 := (hR.2.2.2.2.2 2 (by omega) (by omega)).1
  have r3 : h 12 3 = p 10 := (hR.2.2.2.2.2 3 (by omega) (by omega)).1
  have s0 : h 13 0 = p 2 := (hR.2.2.2.2.2 0 (by omega) (by omega)).2
  have s1 : h 13 1 = p 3 := (hR.2.2.2.2.2 1 (by omega) (by omega)).2
  have s2 : h 13 2 = p 4 := (hR.2.2.2.2.2 2 (by omega) (by omega)).2
  have s3 : h 13 3 = p 5 := (hR.2.2.2.2.2 3 (by omega) (by omega)).2
  have n6 := cR4_n hR
  have n0 : h 4 5 = p 0 := hR.1.2
  refine s_ldI1 ok rfl ?_
  refine s_sw ok rfl ?_
  refine zsw_c za (by first | exact hb _ _ | exact ⟨by omega, by omega⟩) (fun c1 => ?_) (fun c1_0 => ?_)
  · refine s_ldA0 ok rfl ?_
    refine s_getF ok rfl rfl rfl rfl ?_
    refine s_getJ 0 ok rfl rfl rfl rfl ?_
    refine s_retI ok rfl ⟨congrArg (fun z => some (Value.int (iI z))) (by subst c1; simp only [sCo, n6, n0, r0, r1, r2, r3, s0, s1, s2, s3]; first | done | rfl | simp), rfl⟩
  refine zsw_c za (by first | exact hb _ _ | exact ⟨by omega, by omega⟩) (fun c1 => ?_) (fun c1_1 => ?_)
  · refine s_ldA0 ok rfl ?_
    refine s_getF ok rfl rfl rfl rfl ?_
    refine s_getJ 5 ok rfl rfl rfl rfl ?_
    refine s_retI ok rfl ⟨congrArg (fun z => some (Value.int (iI z))) (by subst c1; simp only [sCo, n6, n0, r0, r1, r2, r3, s0, s1, s2, s3]; first | done | rfl | simp), rfl⟩
  refine zsw_c za (by first | exact hb _ _ | exact ⟨by omega, by omega⟩) (fun c1 => ?_) (fun c1_2 => ?_)
  · refine s_ldA0 ok rfl ?_
    refine s_getF ok rfl rfl rfl rfl ?_
    refine s_callV ok rfl rfl rfl rfl rfl rfl (ct_cbits n0 (fun x x0 x1 => (hR.2.2.2.1 x x0 x1).2.2) p00 p04 hp.2.2.1 hs.2.2.2.2) ?_
    refine s_retI ok rfl ⟨congrArg (fun z => some (Value.int (iI z))) (by subst c1; simp only [sCo, n6, n0, r0, r1, r2, r3, s0, s1, s2, s3]; first | done | rfl | simp), rfl⟩
  refine zsw_c za (by first | exact hb _ _ | exact ⟨by omega, by omega⟩) (fun c1 => ?_) (fun c1_3 => ?_)
  · refine s_ldA0 ok rfl ?_
    refine s_getF ok rfl rfl rfl rfl ?_
    refine s_getF ok rfl rfl rfl rfl ?_
    refine s_ci ok rfl ?_
    refine s_iald ok rfl (by exact rfl) (by exact rfl) (by omega) (by omega) ?_
    refine s_retI ok rfl ⟨congrArg (fun z => some (Value.int (iI z))) (by subst c1; simp only [sCo, n6, n0, r0, r1, r2, r3, s0, s1, s2, s3]; first | done | rfl | simp), rfl⟩
  refine zsw_c za (by first | exact hb _ _ | exact ⟨by omega, by omega⟩) (fun c1 => ?_) (fun c1_4 => ?_)
  · refine s_ldA0 ok rfl ?_
    refine s_getF ok rfl rfl rfl rfl ?_
    refine s_getF ok rfl rfl rfl rfl ?_
    refine s_ci ok rfl ?_
    refine s_iald ok rfl (by exact rfl) (by exact rfl) (by omega) (by omega) ?_
    refine s_retI ok rfl ⟨congrArg (fun z => some (Value.int (iI z))) (by subst c1; simp only [sCo, n6, n0, r0, r1, r2, r3, s0, s1, s2, s3]; first | done | rfl | simp), rfl⟩
  refine zsw_c za (by first | exact hb _ _ | exact ⟨by omega, by omega⟩) (fun c1 => ?_) (fun c1_5 => ?_)
  · refine s_ldA0 ok rfl ?_
    refine s_getF ok rfl rfl rfl rfl ?_
    refine s_getF ok rfl rfl rfl rfl ?_
    refine s_ci ok rfl ?_
    refine s_iald ok rfl (by exact rfl) (by exact rfl) (by omega) (by omega) ?_
    refine s_retI ok rfl ⟨congrArg (fun z => some (Value.int (iI z))) (by subst c1; simp only [sCo, n6, n0, r0, r1, r2, r3, s0, s1, s2, s3]; first | done | rfl | simp), rfl⟩
  refine zsw_c za (by first | exact hb _ _ | exact ⟨by omega, by omega⟩) (fun c1 => ?_) (fun c1_6 => ?_)
  · refine s_ldA0 ok rfl ?_
    refine s_getF ok rfl rfl rfl rfl ?_
    refine s_getF ok rfl rfl rfl rfl ?_
    refine s_ci ok rfl ?_
    refine s_iald ok rfl (by exact rfl) (by exact rfl) (by omega) (by omega) ?_
    refine s_retI ok rfl ⟨congrArg (fun z => some (Value.int (iI z))) (by subst c1; simp only [sCo, n6, n0, r0, r1, r2, r3, s0, s1, s2, s3]; first | done | rfl | simp), rfl⟩
  refine zsw_c za (by first | exact hb _ _ | exact ⟨by omega, by omega⟩) (fun c1 => ?_) (fun c1_7 => ?_)
  · refine s_ldA0 ok rfl ?_
    refine s_getF ok rfl rfl rfl rfl ?_
    refine s_callV ok rfl rfl rfl rfl rfl rfl (ct_allRuns) ?_
    refine s_retI ok rfl ⟨congrArg (fun z => some (Value.int (iI z))) (by subst c1; simp only [sCo, n6, n0, r0, r1, r2, r3, s0, s1, s2, s3]; first | done | rfl | simp), rfl⟩
  show zGo _ _ _ _ _ _ 120 _
  refine s_ci ok rfl ?_
  refine s_retI ok rfl ⟨congrArg (fun z => some (Value.int (iI z))) (by unfold sCo; rw [if_neg (by omega), if_neg (by omega), if_neg (by omega), if_neg (by omega), if_neg (by omega)]), rfl⟩
theorem ct_cancels11 {E : zE} {d : Nat} {k : Nat → Nat × Nat} {h : Nat → Int → Int} {r : Nat → Int → Option Nat} {l : Nat → Nat → Int64} {n : Nat} {p : Int → Int} (hs : pS p) (hR : cR 4 5 6 7 8 9 10 11 12 13 k h r n p (-4)) {t : Int} (zt : zb t) : zCT E (d + 3) M_X11_cancels [.ref 3, .int (iI (t))] (zJ (k, h, r, l, n)) 0 0 (zVx (.int (iI (if 0 ≤ t ∧ t < p 0 then zbt (zxb (p 1) t) t else -1))) (zG k r l n (fun g => (∀ q : Nat, ¬ q = 11 → g q = h q) ∧ cR 4 5 6 7 8 9 10 11 12 13 k g r n (if 0 ≤ t ∧ t < p 0 then zp p 1 (zxb (p 1) t) else p) (-4)))) := by
  have ok := ok_X11_cancels
  refine zCT_of pn_X11_cancels (Nat.le_of_ble_eq_true rfl) ?_
  show zGo _ _ _ _ _ _ 0 ([some (.ref 3), some (.int (iI (t)))], [], _, _, _)
  have hp := hs.1
  have hft := hs.2.2.2.1
  have p60 := hp.2.2.2.2.2.2.2.2.2.2.2.2.1
  have p68 := hp.2.2.2.2.2.2.2.2.2.2.2.2.2.1
  have p00 := hp.1
  have p04 := hp.2.1
  have hf : ∀ q : Int, 0 ≤ q → q < p 6 → ¬ pFr p q = 4 := fun q q0 q1 => by have := pOf_gt hp q0 (by omega) (hft q q0 q1); omega
  refine s_ldA0 ok rfl ?_
  refine s_getF ok rfl rfl rfl rfl ?_
  refine s_ldI1 ok rfl ?_
  refine s_callV ok rfl rfl rfl rfl rfl rfl (ct_pisTrain4 hR.1.2 p00 p04 zt) ?_
  refine s_if_eq ok rfl zif01 (fun c8 => ?_) (fun c8 => ?_)
  · refine s_ci ok rfl ?_
    have no := zif_f c8
    refine s_retI ok rfl ⟨congrArg (fun z => some (Value.int (iI z))) (if_neg no).symm, h, rfl, fun _ _ => rfl, ?_⟩
    rw [if_neg no]
    exact hR
  · have yt := zif_t c8
    refine s_ldA0 ok rfl ?_
    refine s_getF ok rfl rfl rfl rfl ?_
    refine s_ldI1 ok rfl ?_
    refine s_callVvx ok rfl rfl rfl rfl rfl rfl (ct_turn4 hR yt.1 yt.2 p04 hp.2.2.1 hp.2.2.2.1) (fun σ18 hσ18 => ?_)
    obtain ⟨g18, rfl, hg18⟩ := hσ18
    obtain ⟨eg, hR2⟩ := hg18
    have b := zxb_bit (m := p 1) (x := t) (y := t) hp.2.2.1 hp.2.2.2.1 yt.1 (by omega) yt.1 (by omega)
    rw [if_pos rfl] at b
    have v0 := (hR.2.2.2.1 t yt.1 yt.2).2.2
    have v1 : g18 11 t = zbt (zxb (p 1) t) t := by rw [eg, zv_is, b, v0]
    have q1 := zbt_01 (zxb (p 1) t) t
    refine s_ldA0 ok rfl ?_
    refine s_getF ok rfl rfl rfl rfl ?_
    refine s_getF ok rfl rfl rfl rfl ?_
    refine s_ldI1 ok rfl ?_
    refine s_iald ok rfl (by exact rfl) (by exact rfl) (by omega) (by omega) ?_
    refine s_if_eq ok rfl ⟨by rw [v1]; omega, by rw [v1]; omega⟩ (fun c30 => ?_) (fun c30 => ?_)
    · refine s_ci ok rfl ?_
      refine s_retI ok rfl ⟨congrArg (fun z => some (Value.int (iI z))) (by rw [if_pos yt]; omega), g18, rfl, fun q hq => by rw [eg]; exact zv_other hq, ?_⟩
      rw [if_pos yt]
      exact hR2
    · refine s_ci ok rfl ?_
      refine s_goto ok rfl ?_
      refine s_retI ok rfl ⟨congrArg (fun z => some (Value.int (iI z))) (by rw [if_pos yt]; omega), g18, rfl, fun q hq => by rw [eg]; exact zv_other hq, ?_⟩
      rw [if_pos yt]
      exact hR2
