/-! the class: a day's questions -/
def dNo (N : Int) (g : Nat → Int → Int) : Prop := ∀ q : Int, 0 ≤ q → q < N → g 69 q < 0 → g 70 q = -4 ∧ g 71 q = -4
theorem dNo.o {N : Int} {g : Nat → Int → Int} (d : dNo N g) {n : Nat} {j v : Int} (h1 : ¬ n = 69) (h2 : ¬ n = 70) (h3 : ¬ n = 71) : dNo N (zv g n j v) := fun q q0 q1 => by
  rw [zv_other (by omega), zv_other (by omega), zv_other (by omega)]
  exact d q q0 q1
theorem dNo_GO {N : Int} {h : Nat → Int → Int} {x : Int} (d : dNo N h) (x0 : 0 ≤ x) : ∀ c : Nat, dNo N (sGO x h c)
  | 0 => d
  | c + 1 => by
    have i1 := dNo_GO d x0 c
    show dNo N (sGO1 x c (sGO x h c))
    generalize sGO x h c = g at *
    unfold sGO1
    split
    · rename_i e
      intro q q0 q1 z
      have z : g 69 q < 0 := z
      have := i1 q q0 q1 z
      refine ⟨this.1, ?_⟩
      show (if q = (c : Int) then g 64 x else g 71 q) = -4
      rw [if_neg (fun y => by rw [← y] at e; omega)]
      exact this.2
    · exact i1
theorem dNo_Try {N : Int} {g : Nat → Int → Int} {x p : Int} (d : dNo N g) (x0 : 0 ≤ x) : dNo N (sTry x p g) := by
  have q2 : ∀ c : Prop, [Decidable c] → dNo N (if c then zv g 74 p (g 74 p + 1) else g) := by
    intro c _
    split
    · exact d.o (by omega) (by omega) (by omega)
    · exact d
  unfold sTry
  split
  · intro q q0 q1 z
    have z : (if q = p then x else g 69 q) < 0 := z
    show (if q = p then g 64 x else g 70 q) = -4 ∧ g 71 q = -4
    by_cases e : q = p
    · rw [if_pos e] at z
      omega
    · rw [if_neg e] at z ⊢
      exact d q q0 q1 z
  · split
    · exact q2 _
    · exact ((q2 _).o (by omega) (by omega) (by omega)).o (by omega) (by omega) (by omega)
theorem dNo_Ta {N : Int} {g : Nat → Int → Int} {x : Int} {a : Int → Int} (d : dNo N g) (x0 : 0 ≤ x) : ∀ c : Nat, dNo N (zfo (fun j s => sTry x (a j) s) g c)
  | 0 => d
  | c + 1 => dNo_Try (dNo_Ta d x0 c) x0
theorem dNo_stop {N : Int} {h : Nat → Int → Int} {x : Int} (d : dNo N h) (x0 : 0 ≤ x) : dNo N (sStop x h) := by
  have b2 : dNo N (sS2 x h) := dNo_GO (h := zv (zv h 59 19 0) 67 (5 * x + h 63 x) (h 64 x)) ((d.o (by omega) (by omega) (by omega)).o (by omega) (by omega) (by omega)) x0 (nP h)
  have b3 : dNo N (sS3 x h) := fun p => by
    unfold sS3
    rw [zar_other (by omega), zar_other (by omega), zar_other (by omega)]
    exact b2 p
  have b4 : dNo N (sS4 x h) := by
    unfold sS4
    split
    · exact dNo_Ta b3 x0 _
    · exact b2
  have b6 : dNo N (sS6 x h) := (b4.o (by omega) (by omega) (by omega)).o (by omega) (by omega) (by omega)
  unfold sStop
  refine dNo.o ?_ (by omega) (by omega) (by omega)
  unfold sS7
  split
  · exact b6.o (by omega) (by omega) (by omega)
  · exact b6
theorem dNo_evs {N : Int} : ∀ (c : Nat) {h : Nat → Int → Int}, dNo N h → dNo N (sEvs c h)
  | 0, _, q => q
  | c + 1, h, q => by
    have i := sNx_in h (nT h)
    unfold sEvs
    generalize sNx h (nT h) = x at *
    by_cases z : x < 0
    · rw [if_pos z]
      exact q
    · rw [if_neg z]
      exact dNo_evs c (dNo_stop q (by omega))
theorem dNo_dN {p : Int → Int} {w dd : Int} : dNo (p 6) (dN p w dd) := by
  refine dNo_evs 61 fun q q0 q1 _ => ?_
  obtain ⟨b1, b2, b3, b4⟩ := beg_p (p := p) (w := w) (dd := dd) q0 q1
  refine ⟨?_, b2⟩
  unfold sBeg sB2
  rw [dC_60]
  show (if 0 ≤ q ∧ q < p 6 ∧ 69 ≤ 70 ∧ 70 ≤ 74 then (if 70 ≤ 71 then (-4 : Int) else 0) else _) = _
  rw [if_pos ⟨q0, q1, by omega, by omega⟩, if_pos (by omega)]
/-- only the trips' cells differ -/
def cF (h g : Nat → Int → Int) : Prop := ∀ q : Nat, q < 37 ∨ 54 < q → g q = h q
/-- one of the trip, nobody away -/
theorem tD_one {p : Int → Int} {dd t : Int} {g : Nat → Int → Int} (d : tD p (-4) dd g) (t0 : 0 ≤ t) (t1 : t < p 6) : g 44 t = (if dN p (-4) dd 69 t < 0 then -1 else dN p (-4) dd 69 t) ∧ (0 ≤ dN p (-4) dd 69 t → g 45 t = dN p (-4) dd 70 t ∧ g 46 t = dN p (-4) dd 71 t ∧ 1 ≤ dN p (-4) dd 71 t ∧ dN p (-4) dd 69 t < 3 * p 0) ∧ (dN p (-4) dd 69 t < 0 → dN p (-4) dd 70 t = -4 ∧ dN p (-4) dd 71 t = -4) ∧ g 47 t = dN p (-4) dd 74 t ∧ g 48 t = dN p (-4) dd 72 t ∧ pcI (dN p (-4) dd 72 t) = dN p (-4) dd 73 t ∧ (0 ≤ dN p (-4) dd 72 t ∧ dN p (-4) dd 72 t < 4096) ∧ (g 44 t = -1 ↔ dN p (-4) dd 71 t < 0) ∧ (g 44 t = -1 ↔ dN p (-4) dd 69 t < 0) := by
  have a := d.1 t t0 (by rw [cnP_4]; exact t1)
  have b := (tD_a d t0 (by rw [cnP_4]; exact t1)).2.2.2
  rw [sg_4] at a b
  obtain ⟨a1, a2, a3, a4, a5, a6, a7⟩ := a
  refine ⟨a1, a2, fun z => dNo_dN t t0 t1 z, a4, a5, a6, a7, b, ?_⟩
  rw [a1]
  by_cases c : dN p (-4) dd 69 t < 0
  · rw [if_pos c]
    exact ⟨fun _ => c, fun _ => rfl⟩
  · rw [if_neg c]
    exact ⟨fun z => by omega, fun z => by omega⟩
theorem ct_strike11 {E : zE} {d : Nat} {k : Nat → Nat × Nat} {h : Nat → Int → Int} {r : Nat → Int → Option Nat} {l : Nat → Nat → Int64} {n : Nat} {p : Int → Int} (hs : pS p) (hR : cR 4 5 6 7 8 9 10 11 12 13 k h r n p (-4)) : zCT E (d + 9) M_X11_strike [.ref 3] (zJ (k, h, r, l, n)) 0 0 (zVx (.int (iI (dMn p (-4) 1))) (zG k r l n (cF h))) := by
  have ok := ok_X11_strike
  refine zCT_of pn_X11_strike (Nat.le_of_ble_eq_true rfl) ?_
  show zGo _ _ _ _ _ _ 0 ([some (.ref 3)], [], _, _, _)
  have hp := hs.1
  have hft := hs.2.2.2.1
  have p60 := hp.2.2.2.2.2.2.2.2.2.2.2.2.1
  have p68 := hp.2.2.2.2.2.2.2.2.2.2.2.2.2.1
  have p00 := hp.1
  have p04 := hp.2.1
  have hf : ∀ q : Int, 0 ≤ q → q < p 6 → ¬ pFr p q = 4 := fun q q0 q1 => by have := pOf_gt hp q0 (by omega) (hft q q0 q1); omega
  refine s_ldA0 ok rfl ?_
  refine s_getF ok rfl rfl rfl rfl ?_
  refine s_ldA0 ok rfl ?_
  refine s_getF ok rfl rfl rfl rfl ?_
  refine s_ci ok rfl ?_
  refine s_callVvx ok rfl rfl rfl rfl rfl rfl (ct_go4 (d := d) (p := p) (w := -4) (dd := 1) hp (Or.inl rfl) (Or.inl rfl) hf hR) (fun σ9 hσ9 => ?_)
  obtain ⟨g9, rfl, hg9⟩ := hσ9
  obtain ⟨gf, -, gC, gT, gS⟩ := hg9
  have D := tD_of hp (Or.inl rfl) hft gT gS
  have e37 : g9 37 6 = p 6 := gC.1.trans cnP_4
  have hz44 : ∀ t : Int, 0 ≤ t → t < p 6 → zb (g9 44 t) := fun t t0 t1 => by
    rw [(tD_one D t0 t1).1]
    split
    · exact ⟨by omega, by omega⟩
    · exact (dN_ok (dd := 1) hp (w := -4) ⟨by omega, by omega⟩).2.1 t
  refine s_ldA0 ok rfl ?_
  refine s_getF ok rfl rfl rfl rfl ?_
  refine s_callV ok rfl rfl rfl rfl rfl rfl (ct_arriving9 (h := g9) (cn := (p 6).toNat) (by rw [e37]; omega) (by omega) (fun t t0 t1 => hz44 t t0 (by omega))) ?_
  refine s_retI ok rfl ⟨congrArg (fun z => some (Value.int (iI z))) (?_), _, rfl, gf⟩
  unfold dMn
  refine zsum_cg _ fun t t0 t1 => ?_
  have := (tD_a D (t := t) t0 (by rw [cnP_4]; omega)).2.1
  rw [sg_4] at this
  exact this
theorem ct_fullest11 {E : zE} {d : Nat} {k : Nat → Nat × Nat} {h : Nat → Int → Int} {r : Nat → Int → Option Nat} {l : Nat → Nat → Int64} {n : Nat} {p : Int → Int} (hs : pS p) (hR : cR 4 5 6 7 8 9 10 11 12 13 k h r n p (-4)) {a b : Int} (za : zb a) (zc : zb b) : zCT E (d + 9) M_X11_fullest [.ref 3, .int (iI (a)), .int (iI (b))] (zJ (k, h, r, l, n)) 0 0 (zVx (.int (iI (if (0 ≤ a ∧ a < p 0) ∧ (0 ≤ b ∧ b < 3) then dN p (-4) 3 66 (3 * a + b) else -1))) (zG k r l n (cF h))) := by
  have ok := ok_X11_fullest
  refine zCT_of pn_X11_fullest (Nat.le_of_ble_eq_true rfl) ?_
  show zGo _ _ _ _ _ _ 0 ([some (.ref 3), some (.int (iI (a))), some (.int (iI (b)))], [], _, _, _)
  have hp := hs.1
  have hft := hs.2.2.2.1
  have p60 := hp.2.2.2.2.2.2.2.2.2.2.2.2.1
  have p68 := hp.2.2.2.2.2.2.2.2.2.2.2.2.2.1
  have p00 := hp.1
  have p04 := hp.2.1
  have hf : ∀ q : Int, 0 ≤ q → q < p 6 → ¬ pFr p q = 4 := fun q q0 q1 => by have := pOf_gt hp q0 (by omega) (hft q q0 q1); omega
  refine s_ldA0 ok rfl ?_
  refine s_getF ok rfl rfl rfl rfl ?_
  refine s_ldI1 ok rfl ?_
  refine s_callV ok rfl rfl rfl rfl rfl rfl (ct_pisTrain4 hR.1.2 p00 p04 za) ?_
  refine s_if_eq ok rfl zif01 (fun c8 => ?_) (fun c8 => ?_)
  · refine s_ci ok rfl ?_
    first
      | exact s_retI ok rfl ⟨congrArg (fun z => some (Value.int (iI z))) (if_neg (fun q => zif_f c8 q.1)).symm, _, rfl, fun _ _ => rfl⟩
      | exact s_retI ok rfl ⟨congrArg (fun z => some (Value.int (iI z))) (if_neg (fun q => zif_f c15 q.2)).symm, _, rfl, fun _ _ => rfl⟩
  · refine s_ldI2 ok rfl ?_
    refine s_callS ok rfl rfl rfl rfl (ct_isDepth11 zc) ?_
    refine s_if_eq ok rfl zif01 (fun c15 => ?_) (fun c15 => ?_)
    · refine s_ci ok rfl ?_
      first
        | exact s_retI ok rfl ⟨congrArg (fun z => some (Value.int (iI z))) (if_neg (fun q => zif_f c8 q.1)).symm, _, rfl, fun _ _ => rfl⟩
        | exact s_retI ok rfl ⟨congrArg (fun z => some (Value.int (iI z))) (if_neg (fun q => zif_f c15 q.2)).symm, _, rfl, fun _ _ => rfl⟩
    · have ya := zif_t c8
      have yb := zif_t c15
      refine s_ldA0 ok rfl ?_
      refine s_getF ok rfl rfl rfl rfl ?_
      refine s_ldA0 ok rfl ?_
      refine s_getF ok rfl rfl rfl rfl ?_
      refine s_ci ok rfl ?_
      refine s_callVvx ok rfl rfl rfl rfl rfl rfl (ct_go4 (d := d) (p := p) (w := -4) (dd := 3) hp (Or.inr rfl) (Or.inl rfl) hf hR) (fun σ29 hσ29 => ?_)
      obtain ⟨g29, rfl, hg29⟩ := hσ29
      obtain ⟨gf, -, gC, gT, gS⟩ := hg29
      have D := tD_of hp (Or.inl rfl) hft gT gS
      have e37 : g29 37 6 = p 6 := gC.1.trans cnP_4
      have hz44 : ∀ t : Int, 0 ≤ t → t < p 6 → zb (g29 44 t) := fun t t0 t1 => by
        rw [(tD_one D t0 t1).1]
        split
        · exact ⟨by omega, by omega⟩
        · exact (dN_ok (dd := 3) hp (w := -4) ⟨by omega, by omega⟩).2.1 t
      refine s_ldA0 ok rfl ?_
      refine s_getF ok rfl rfl rfl rfl ?_
      refine s_getF ok rfl rfl rfl rfl ?_
      refine s_ldI1 ok rfl ?_
      refine s_ldI2 ok rfl ?_
      refine s_callS ok rfl rfl rfl rfl (ct_pnumberOf) ?_
      refine s_iald ok rfl (by exact rfl) (by exact rfl) (by omega) (by omega) ?_
      exact s_retI ok rfl ⟨congrArg (fun z => some (Value.int (iI z))) (((D.2.2 (3 * a + b) (by omega) (by omega) (by omega)).1).trans (if_pos ⟨ya, yb⟩).symm), _, rfl, gf⟩
theorem ct_when11 {E : zE} {d : Nat} {k : Nat → Nat × Nat} {h : Nat → Int → Int} {r : Nat → Int → Option Nat} {l : Nat → Nat → Int64} {n : Nat} {p : Int → Int} (hs : pS p) (hR : cR 4 5 6 7 8 9 10 11 12 13 k h r n p (-4)) {a b c : Int} (za : zb a) (zc : zb b) (ze : zb c) : zCT E (d + 9) M_X11_when [.ref 3, .int (iI (a)), .int (iI (b)), .int (iI (c))] (zJ (k, h, r, l, n)) 0 0 (zVx (.int (iI (if (0 ≤ a ∧ a < p 0) ∧ (0 ≤ b ∧ b < 3) ∧ (0 ≤ c ∧ c ≤ 4) then dN p (-4) 3 67 (5 * (3 * a + b) + c) else -1))) (zG k r l n (cF h))) := by
  have ok := ok_X11_when
  refine zCT_of pn_X11_when (Nat.le_of_ble_eq_true rfl) ?_
  show zGo _ _ _ _ _ _ 0 ([some (.ref 3), some (.int (iI (a))), some (.int (iI (b))), some (.int (iI (c)))], [], _, _, _)
  have hp := hs.1
  have hft := hs.2.2.2.1
  have p60 := hp.2.2.2.2.2.2.2.2.2.2.2.2.1
  have p68 := hp.2.2.2.2.2.2.2.2.2.2.2.2.2.1
  have p00 := hp.1
  have p04 := hp.2.1
  have hf : ∀ q : Int, 0 ≤ q → q < p 6 → ¬ pFr p q = 4 := fun q q0 q1 => by have := pOf_gt hp q0 (by omega) (hft q q0 q1); omega
  refine s_ldA0 ok rfl ?_
  refine s_getF ok rfl rfl rfl rfl ?_
  refine s_ldI1 ok rfl ?_
  refine s_callV ok rfl rfl rfl rfl rfl rfl (ct_pisTrain4 hR.1.2 p00 p04 za) ?_
  refine s_if_eq ok rfl zif01 (fun c8 => ?_) (fun c8 => ?_)
  · refine s_ci ok rfl ?_
    first
      | exact s_retI ok rfl ⟨congrArg (fun z => some (Value.int (iI z))) (if_neg (fun q => zif_f c8 q.1)).symm, _, rfl, fun _ _ => rfl⟩
      | exact s_retI ok rfl ⟨congrArg (fun z => some (Value.int (iI z))) (if_neg (fun q => zif_f c15 q.2.1)).symm, _, rfl, fun _ _ => rfl⟩
      | exact s_retI ok rfl ⟨congrArg (fun z => some (Value.int (iI z))) (if_neg (fun q => zif_f c22 q.2.2)).symm, _, rfl, fun _ _ => rfl⟩
  · refine s_ldI2 ok rfl ?_
    refine s_callS ok rfl rfl rfl rfl (ct_isDepth11 zc) ?_
    refine s_if_eq ok rfl zif01 (fun c15 => ?_) (fun c15 => ?_)
    · refine s_ci ok rfl ?_
      first
        | exact s_retI ok rfl ⟨congrArg (fun z => some (Value.int (iI z))) (if_neg (fun q => zif_f c8 q.1)).symm, _, rfl, fun _ _ => rfl⟩
        | exact s_retI ok rfl ⟨congrArg (fun z => some (Value.int (iI z))) (if_neg (fun q => zif_f c15 q.2.1)).symm, _, rfl, fun _ _ => rfl⟩
        | exact s_retI ok rfl ⟨congrArg (fun z => some (Value.int (iI z))) (if_neg (fun q => zif_f c22 q.2.2)).symm, _, rfl, fun _ _ => rfl⟩
    · refine s_ldI3 ok rfl ?_
      refine s_callS ok rfl rfl rfl rfl (ct_pisStop ze) ?_
      refine s_if_eq ok rfl zif01 (fun c22 => ?_) (fun c22 => ?_)
      · refine s_ci ok rfl ?_
        first
          | exact s_retI ok rfl ⟨congrArg (fun z => some (Value.int (iI z))) (if_neg (fun q => zif_f c8 q.1)).symm, _, rfl, fun _ _ => rfl⟩
          | exact s_retI ok rfl ⟨congrArg (fun z => some (Value.int (iI z))) (if_neg (fun q => zif_f c15 q.2.1)).symm, _, rfl, fun _ _ => rfl⟩
          | exact s_retI ok rfl ⟨congrArg (fun z => some (Value.int (iI z))) (if_neg (fun q => zif_f c22 q.2.2)).symm, _, rfl, fun _ _ => rfl⟩
      · have ya := zif_t c8
        have yb := zif_t c15
        have yc := zif_t c22
        refine s_ldA0 ok rfl ?_
        refine s_getF ok rfl rfl rfl rfl ?_
        refine s_ldA0 ok rfl ?_
        refine s_getF ok rfl rfl rfl rfl ?_
        refine s_ci ok rfl ?_
        refine s_callVvx ok rfl rfl rfl rfl rfl rfl (ct_go4 (d := d) (p := p) (w := -4) (dd := 3) hp (Or.inr rfl) (Or.inl rfl) hf hR) (fun σ36 hσ36 => ?_)
        obtain ⟨g36, rfl, hg36⟩ := hσ36
        obtain ⟨gf, -, gC, gT, gS⟩ := hg36
        have D := tD_of hp (Or.inl rfl) hft gT gS
        have e37 : g36 37 6 = p 6 := gC.1.trans cnP_4
        have hz44 : ∀ t : Int, 0 ≤ t → t < p 6 → zb (g36 44 t) := fun t t0 t1 => by
          rw [(tD_one D t0 t1).1]
          split
          · exact ⟨by omega, by omega⟩
          · exact (dN_ok (dd := 3) hp (w := -4) ⟨by omega, by omega⟩).2.1 t
        refine s_ldA0 ok rfl ?_
        refine s_getF ok rfl rfl rfl rfl ?_
        refine s_getF ok rfl rfl rfl rfl ?_
        refine s_ldI1 ok rfl ?_
        refine s_ldI2 ok rfl ?_
        refine s_ldI3 ok rfl ?_
        refine s_callS ok rfl rfl rfl rfl (ct_place) ?_
        refine s_iald ok rfl (by exact rfl) (by exact rfl) (by omega) (by omega) ?_
        exact s_retI ok rfl ⟨congrArg (fun z => some (Value.int (iI z))) ((((D.2.2 (3 * a + b) (by omega) (by omega) (by omega)).2 c yc.1 (by omega)).1).trans (if_pos ⟨ya, yb, yc⟩).symm), _, rfl, gf⟩
theorem ct_aboard11 {E : zE} {d : Nat} {k : Nat → Nat × Nat} {h : Nat → Int → Int} {r : Nat → Int → Option Nat} {l : Nat → Nat → Int64} {n : Nat} {p : Int → Int} (hs : pS p) (hR : cR 4 5 6 7 8 9 10 11 12 13 k h r n p (-4)) {a b c : Int} (za : zb a) (zc : zb b) (ze : zb c) : zCT E (d + 9) M_X11_aboard [.ref 3, .int (iI (a)), .int (iI (b)), .int (iI (c))] (zJ (k, h, r, l, n)) 0 0 (zVx (.int (iI (if (0 ≤ a ∧ a < p 0) ∧ (0 ≤ b ∧ b < 3) ∧ (0 ≤ c ∧ c ≤ 4) then dN p (-4) 3 68 (5 * (3 * a + b) + c) else -1))) (zG k r l n (cF h))) := by
  have ok := ok_X11_aboard
  refine zCT_of pn_X11_aboard (Nat.le_of_ble_eq_true rfl) ?_
  show zGo _ _ _ _ _ _ 0 ([some (.ref 3), some (.int (iI (a))), some (.int (iI (b))), some (.int (iI (c)))], [], _, _, _)
  have hp := hs.1
  have hft := hs.2.2.2.1
  have p60 := hp.2.2.2.2.2.2.2.2.2.2.2.2.1
  have p68 := hp.2.2.2.2.2.2.2.2.2.2.2.2.2.1
  have p00 := hp.1
  have p04 := hp.2.1
  have hf : ∀ q : Int, 0 ≤ q → q < p 6 → ¬ pFr p q = 4 := fun q q0 q1 => by have := pOf_gt hp q0 (by omega) (hft q q0 q1); omega
  refine s_ldA0 ok rfl ?_
  refine s_getF ok rfl rfl rfl rfl ?_
  refine s_ldI1 ok rfl ?_
  refine s_callV ok rfl rfl rfl rfl rfl rfl (ct_pisTrain4 hR.1.2 p00 p04 za) ?_
  refine s_if_eq ok rfl zif01 (fun c8 => ?_) (fun c8 => ?_)
  · refine s_ci ok rfl ?_
    first
      | exact s_retI ok rfl ⟨congrArg (fun z => some (Value.int (iI z))) (if_neg (fun q => zif_f c8 q.1)).symm, _, rfl, fun _ _ => rfl⟩
      | exact s_retI ok rfl ⟨congrArg (fun z => some (Value.int (iI z))) (if_neg (fun q => zif_f c15 q.2.1)).symm, _, rfl, fun _ _ => rfl⟩
      | exact s_retI ok rfl ⟨congrArg (fun z => some (Value.int (iI z))) (if_neg (fun q => zif_f c22 q.2.2)).symm, _, rfl, fun _ _ => rfl⟩
  · refine s_ldI2 ok rfl ?_
    refine s_callS ok rfl rfl rfl rfl (ct_isDepth11 zc) ?_
    refine s_if_eq ok rfl zif01 (fun c15 => ?_) (fun c15 => ?_)
    · refine s_ci ok rfl ?_
      first
        | exact s_retI ok rfl ⟨congrArg (fun z => some (Value.int (iI z))) (if_neg (fun q => zif_f c8 q.1)).symm, _, rfl, fun _ _ => rfl⟩
        | exact s_retI ok rfl ⟨congrArg (fun z => some (Value.int (iI z))) (if_neg (fun q => zif_f c15 q.2.1)).symm, _, rfl, fun _ _ => rfl⟩
        | exact s_retI ok rfl ⟨congrArg (fun z => some (Value.int (iI z))) (if_neg (fun q => zif_f c22 q.2.2)).symm, _, rfl, fun _ _ => rfl⟩
    · refine s_ldI3 ok rfl ?_
      refine s_callS ok rfl rfl rfl rfl (ct_pisStop ze) ?_
      refine s_if_eq ok rfl zif01 (fun c22 => ?_) (fun c22 => ?_)
      · refine s_ci ok rfl ?_
        first
          | exact s_retI ok rfl ⟨congrArg (fun z => some (Value.int (iI z))) (if_neg (fun q => zif_f c8 q.1)).symm, _, rfl, fun _ _ => rfl⟩
          | exact s_retI ok rfl ⟨congrArg (fun z => some (Value.int (iI z))) (if_neg (fun q => zif_f c15 q.2.1)).symm, _, rfl, fun _ _ => rfl⟩
          | exact s_retI ok rfl ⟨congrArg (fun z => some (Value.int (iI z))) (if_neg (fun q => zif_f c22 q.2.2)).symm, _, rfl, fun _ _ => rfl⟩
      · have ya := zif_t c8
        have yb := zif_t c15
        have yc := zif_t c22
        refine s_ldA0 ok rfl ?_
        refine s_getF ok rfl rfl rfl rfl ?_
        refine s_ldA0 ok rfl ?_
        refine s_getF ok rfl rfl rfl rfl ?_
        refine s_ci ok rfl ?_
        refine s_callVvx ok rfl rfl rfl rfl rfl rfl (ct_go4 (d := d) (p := p) (w := -4) (dd := 3) hp (Or.inr rfl) (Or.inl rfl) hf hR) (fun σ36 hσ36 => ?_)
        obtain ⟨g36, rfl, hg36⟩ := hσ36
        obtain ⟨gf, -, gC, gT, gS⟩ := hg36
        have D := tD_of hp (Or.inl rfl) hft gT gS
        have e37 : g36 37 6 = p 6 := gC.1.trans cnP_4
        have hz44 : ∀ t : Int, 0 ≤ t → t < p 6 → zb (g36 44 t) := fun t t0 t1 => by
          rw [(tD_one D t0 t1).1]
          split
          · exact ⟨by omega, by omega⟩
          · exact (dN_ok (dd := 3) hp (w := -4) ⟨by omega, by omega⟩).2.1 t
        refine s_ldA0 ok rfl ?_
        refine s_getF ok rfl rfl rfl rfl ?_
        refine s_getF ok rfl rfl rfl rfl ?_
        refine s_ldI1 ok rfl ?_
        refine s_ldI2 ok rfl ?_
        refine s_ldI3 ok rfl ?_
        refine s_callS ok rfl rfl rfl rfl (ct_place) ?_
        refine s_iald ok rfl (by exact rfl) (by exact rfl) (by omega) (by omega) ?_
        exact s_retI ok rfl ⟨congrArg (fun z => some (Value.int (iI z))) ((((D.2.2 (3 * a + b) (by omega) (by omega) (by omega)).2 c yc.1 (by omega)).2 rfl).trans (if_pos ⟨ya, yb, yc⟩).symm), _, rfl, gf⟩
