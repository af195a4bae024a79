/-! the law: questions without consequences -/
theorem sWR_cg {g h : Nat → Int → Int} (e0 : g 80 = h 80) (e3 : g 83 = h 83) (t b : Int) : sWR g t b = sWR h t b := by unfold sWR; rw [e0, e3]
theorem sWK_cg {g h : Nat → Int → Int} (e0 : g 80 = h 80) (t : Int) : sWK g t = sWK h t := by unfold sWK; rw [e0]
theorem sTh_cg {g h : Nat → Int → Int} (e0 : g 80 = h 80) (e4 : g 84 = h 84) (t a : Int) : sTh g t a = sTh h t a := by unfold sTh; rw [e0, e4]
theorem sJw_cg {g h : Nat → Int → Int} (e3 : g 83 = h 83) (e5 : g 85 = h 85) (D : Nat → Int → Int) (p : Int → Int) (t x : Int) : sJw g D p t x = sJw h D p t x := by
  funext j
  unfold sJw
  rw [e3, e5]
theorem sTw_cg {g h : Nat → Int → Int} (e3 : g 83 = h 83) (e5 : g 85 = h 85) (q : Int → Int) (x : Int) : sTw g q x = sTw h q x := by
  funext t
  unfold sTw
  rw [e3, e5]
theorem dTk_c9 {g h : Nat → Int → Int} (e3 : g 83 = h 83) (e4 : g 84 = h 84) (e5 : g 85 = h 85) (p : Int → Int) (w dd x : Int) : dTk g p w dd x = dTk h p w dd x := by
  funext v
  unfold dTk
  rw [sTw_cg e3 e5, e4]
theorem z3 : zb 3 := ⟨by decide, by decide⟩
theorem LI.cost {L : Nat} {k : Nat → Nat × Nat} {h : Nat → Int → Int} {r : Nat → Int → Option Nat} {n : Nat} (I : LI L k h r n) {t : Int} : sWK h t = 0 → (0 ≤ h 81 t ∧ h 81 t ≤ 7) ∧ (0 ≤ h 82 t ∧ h 82 t ≤ 9) := fun e => by
  obtain ⟨-, -, ⟨v, -, w, -⟩, -⟩ := cSh_k I.2.2.2.1 e
  exact w.2.2
theorem la_fate {E : zE} {L : Nat} {k : Nat → Nat × Nat} {h : Nat → Int → Int} {r : Nat → Int → Option Nat} {l : Nat → Nat → Int64} {n : Nat} (I : LI L k h r n) {a : Int} (ya : zb a) {b : Int} (yb : zb b) : zLP Value.int E L M_X11_fate M_X12_fate [.int (iI a), .int (iI b)] k h r l n :=
  lp_q I _ (fc_F (ct_fate11 I.2.2.2.2.1.1 I.2.2.2.2.1.2  ya yb)) (fun g r9 I2 f => fq_E (ct_fate (f 60 (by omega)) I2.2.2.2.2.2.1.1 I2.2.2.2.2.2.1.2 I2.2.2.2.2.2.2.1 z3 ya yb ))
theorem la_sums {E : zE} {L : Nat} {k : Nat → Nat × Nat} {h : Nat → Int → Int} {r : Nat → Int → Option Nat} {l : Nat → Nat → Int64} {n : Nat} (I : LI L k h r n) {a : Int} (ya : zb a) : zLP Value.int E L M_X11_sums M_X12_sums [.int (iI a)] k h r l n :=
  lp_q I _ (fc_F (ct_sums11 I.2.2.2.2.1.1 I.2.2.2.2.1.2  ya)) (fun g r9 I2 f => fq_E (ct_sums (f 60 (by omega)) I2.2.2.2.2.2.1.1 I2.2.2.2.2.2.1.2 I2.2.2.2.2.2.2.1 z3 ya ))
theorem la_fullest {E : zE} {L : Nat} {k : Nat → Nat × Nat} {h : Nat → Int → Int} {r : Nat → Int → Option Nat} {l : Nat → Nat → Int64} {n : Nat} (I : LI L k h r n) {a : Int} (ya : zb a) {b : Int} (yb : zb b) : zLP Value.int E L M_X11_fullest M_X12_fullest [.int (iI a), .int (iI b)] k h r l n :=
  lp_q I _ (fc_F (ct_fullest11 I.2.2.2.2.1.1 I.2.2.2.2.1.2  ya yb)) (fun g r9 I2 f => fq_E (ct_fullest (f 60 (by omega)) I2.2.2.2.2.2.1.1 I2.2.2.2.2.2.1.2 I2.2.2.2.2.2.2.1 z3 ya yb ))
theorem la_together {E : zE} {L : Nat} {k : Nat → Nat × Nat} {h : Nat → Int → Int} {r : Nat → Int → Option Nat} {l : Nat → Nat → Int64} {n : Nat} (I : LI L k h r n) {a : Int} (ya : zb a) {b : Int} (yb : zb b) : zLP Value.int E L M_X11_together M_X12_together [.int (iI a), .int (iI b)] k h r l n :=
  lp_q I _ (fc_F (ct_together11 I.2.2.2.2.1.1 I.2.2.2.2.1.2  ya yb)) (fun g r9 I2 f => fq_E (ct_together (f 60 (by omega)) I2.2.2.2.2.2.1.1 I2.2.2.2.2.2.1.2 I2.2.2.2.2.2.2.1 z3 ya yb ))
theorem la_when {E : zE} {L : Nat} {k : Nat → Nat × Nat} {h : Nat → Int → Int} {r : Nat → Int → Option Nat} {l : Nat → Nat → Int64} {n : Nat} (I : LI L k h r n) {a : Int} (ya : zb a) {b : Int} (yb : zb b) {c : Int} (yc : zb c) : zLP Value.int E L M_X11_when M_X12_when [.int (iI a), .int (iI b), .int (iI c)] k h r l n :=
  lp_q I _ (fc_F (ct_when11 I.2.2.2.2.1.1 I.2.2.2.2.1.2  ya yb yc)) (fun g r9 I2 f => fq_E (ct_when (f 60 (by omega)) I2.2.2.2.2.2.1.1 I2.2.2.2.2.2.1.2 I2.2.2.2.2.2.2.1 ya yb yc ))
theorem la_aboard {E : zE} {L : Nat} {k : Nat → Nat × Nat} {h : Nat → Int → Int} {r : Nat → Int → Option Nat} {l : Nat → Nat → Int64} {n : Nat} (I : LI L k h r n) {a : Int} (ya : zb a) {b : Int} (yb : zb b) {c : Int} (yc : zb c) : zLP Value.int E L M_X11_aboard M_X12_aboard [.int (iI a), .int (iI b), .int (iI c)] k h r l n :=
  lp_q I _ (fc_F (ct_aboard11 I.2.2.2.2.1.1 I.2.2.2.2.1.2  ya yb yc)) (fun g r9 I2 f => fq_E (ct_aboard (f 60 (by omega)) I2.2.2.2.2.2.1.1 I2.2.2.2.2.2.1.2 I2.2.2.2.2.2.2.1 ya yb yc ))
theorem la_strike {E : zE} {L : Nat} {k : Nat → Nat × Nat} {h : Nat → Int → Int} {r : Nat → Int → Option Nat} {l : Nat → Nat → Int64} {n : Nat} (I : LI L k h r n) : zLP Value.int E L M_X11_strike M_X12_strike [] k h r l n :=
  lp_q I _ (fc_F (ct_strike11 I.2.2.2.2.1.1 I.2.2.2.2.1.2  )) (fun g r9 I2 f => fq_E (ct_strike (f 60 (by omega)) I2.2.2.2.2.2.1.1 I2.2.2.2.2.2.1.2 I2.2.2.2.2.2.2.1  ))
theorem la_worth {E : zE} {L : Nat} {k : Nat → Nat × Nat} {h : Nat → Int → Int} {r : Nat → Int → Option Nat} {l : Nat → Nat → Int64} {n : Nat} (I : LI L k h r n) : zLP Value.int E L M_X11_worth M_X12_worth [] k h r l n :=
  lp_q I _ (fc_F (ct_worth11 I.2.2.2.2.1.1 I.2.2.2.2.1.2)) (fun g r9 I2 f => fq_E (zct_w9 (ct_worth (f 60 (by omega)) I2.2.2.2.2.2.1.1 I2.2.2.2.2.2.1.2 I2.2.2.2.2.2.2.1 z3) fun _ _ z => ⟨z.1, z.2.elim fun g y => ⟨g, y.1, y.2.1⟩⟩))
theorem la_later {E : zE} {L : Nat} {k : Nat → Nat × Nat} {h : Nat → Int → Int} {r : Nat → Int → Option Nat} {l : Nat → Nat → Int64} {n : Nat} (I : LI L k h r n) {a : Int} (ya : zb a) {b : Int} (yb : zb b) : zLP Value.int E L M_X11_later M_X12_later [.int (iI a), .int (iI b)] k h r l n :=
  lp_q I _ (fc_T (ct_later11 I.2.2.2.2.1.1 I.2.2.2.2.1.2  ya yb)) (fun g r9 I2 f => fq_E (ct_later (f 60 (by omega)) I2.2.2.2.2.2.1.1 I2.2.2.2.2.2.1.2 I2.2.2.2.2.2.2.1 z3 ya yb I.2.2.2.2.1.1.2.1))
theorem la_slack {E : zE} {L : Nat} {k : Nat → Nat × Nat} {h : Nat → Int → Int} {r : Nat → Int → Option Nat} {l : Nat → Nat → Int64} {n : Nat} (I : LI L k h r n) {a : Int} (ya : zb a) : zLP Value.int E L M_X11_slack M_X12_slack [.int (iI a)] k h r l n :=
  lp_q I _ (fc_T (ct_slack11 I.2.2.2.2.1.1 I.2.2.2.2.1.2  ya)) (fun g r9 I2 f => fq_E (ct_slack (f 60 (by omega)) I2.2.2.2.2.2.1.1 I2.2.2.2.2.2.1.2 I2.2.2.2.2.2.2.1 z3 ya I.2.2.2.2.1.1.2.1))
theorem la_sure {E : zE} {L : Nat} {k : Nat → Nat × Nat} {h : Nat → Int → Int} {r : Nat → Int → Option Nat} {l : Nat → Nat → Int64} {n : Nat} (I : LI L k h r n) {a : Int} (ya : zb a) {b : Int} (yb : zb b) : zLP Value.int E L M_X11_sure M_X12_sure [.int (iI a), .int (iI b)] k h r l n :=
  lp_q I _ (fc_T (ct_sure11 I.2.2.2.2.1.1 I.2.2.2.2.1.2  ya yb)) (fun g r9 I2 f => fq_E (ct_sure (f 60 (by omega)) I2.2.2.2.2.2.1.1 I2.2.2.2.2.2.1.2 I2.2.2.2.2.2.2.1 z3 ya yb I.2.2.2.2.1.1.2.1))
theorem la_came {E : zE} {L : Nat} {k : Nat → Nat × Nat} {h : Nat → Int → Int} {r : Nat → Int → Option Nat} {l : Nat → Nat → Int64} {n : Nat} (I : LI L k h r n) {a : Int} (ya : zb a) {b : Int} (yb : zb b) {c : Int} (yc : zb c) : zLP Value.int E L M_X11_came M_X12_came [.int (iI a), .int (iI b), .int (iI c)] k h r l n :=
  lp_q I _ (fc_T (ct_came11 I.2.2.2.2.1.1 I.2.2.2.2.1.2  ya yb yc)) (fun g r9 I2 f => fq_E (ct_came (f 60 (by omega)) I2.2.2.2.2.2.1.1 I2.2.2.2.2.2.1.2 I2.2.2.2.2.2.2.1 z3 ya yb yc ))
theorem la_odds {E : zE} {L : Nat} {k : Nat → Nat × Nat} {h : Nat → Int → Int} {r : Nat → Int → Option Nat} {l : Nat → Nat → Int64} {n : Nat} (I : LI L k h r n) {a : Int} (ya : zb a) : zLP Value.int E L M_X11_odds M_X12_odds [.int (iI a)] k h r l n :=
  lp_q I _ (fc_T (ct_odds11 I.2.2.2.2.1.1 I.2.2.2.2.1.2  ya)) (fun g r9 I2 f => fq_L (ct_odds (f 60 (by omega)) I2.2.2.2.2.2.1.1 I2.2.2.2.2.2.1.2 I2.2.2.2.2.2.2.1 z3 ya I.2.2.2.2.1.1.2.1))
theorem la_mean {E : zE} {L : Nat} {k : Nat → Nat × Nat} {h : Nat → Int → Int} {r : Nat → Int → Option Nat} {l : Nat → Nat → Int64} {n : Nat} (I : LI L k h r n) {a : Int} (ya : zb a) {b : Int} (yb : zb b) : zLP Value.long E L M_X11_mean M_X12_mean [.int (iI a), .int (iI b)] k h r l n :=
  lp_q I _ (fc_T (ct_mean11 I.2.2.2.2.1.1 I.2.2.2.2.1.2  ya yb)) (fun g r9 I2 f => fq_L (ct_mean (f 60 (by omega)) I2.2.2.2.2.2.1.1 I2.2.2.2.2.2.1.2 I2.2.2.2.2.2.2.1 z3 ya yb I.2.2.2.2.1.1.2.1))
theorem la_mornings {E : zE} {L : Nat} {k : Nat → Nat × Nat} {h : Nat → Int → Int} {r : Nat → Int → Option Nat} {l : Nat → Nat → Int64} {n : Nat} (I : LI L k h r n) {a : Int} (ya : zb a) {b : Int} (yb : zb b) {c : Int} (yc : zb c) : zLP Value.int E L M_X11_mornings M_X12_mornings [.int (iI a), .int (iI b), .int (iI c)] k h r l n :=
  lp_q I _ (fc_T (ct_mornings11 I.2.2.2.2.1.1 I.2.2.2.2.1.2  ya yc)) (fun g r9 I2 f => fq_L (ct_mornings (f 60 (by omega)) I2.2.2.2.2.2.1.1 I2.2.2.2.2.2.1.2 I2.2.2.2.2.2.2.1 z3 ya yc I.2.2.2.2.1.1.2.1))
theorem la_whose {E : zE} {L : Nat} {k : Nat → Nat × Nat} {h : Nat → Int → Int} {r : Nat → Int → Option Nat} {l : Nat → Nat → Int64} {n : Nat} (I : LI L k h r n) {a : Int} (ya : zb a) : zLP Value.int E L M_X11_whose M_X12_whose [.int (iI a)] k h r l n :=
  lp_q I _ (fc_T (ct_whose11 I.2.2.2.2.1.1 I.2.2.2.2.1.2  ya)) (fun g r9 I2 f => fq_E (ct_whose (f 60 (by omega)) I2.2.2.2.2.2.1.1 I2.2.2.2.2.2.1.2 I2.2.2.2.2.2.2.1 z3 ya ))
theorem la_cancel {E : zE} {L : Nat} {k : Nat → Nat × Nat} {h : Nat → Int → Int} {r : Nat → Int → Option Nat} {l : Nat → Nat → Int64} {n : Nat} (I : LI L k h r n) {a : Int} (ya : zb a) : zLP Value.int E L M_X11_cancel M_X12_cancel [.int (iI a)] k h r l n :=
  lp_q I _ (fc_T (ct_cancel11 I.2.2.2.2.1.1 I.2.2.2.2.1.2  ya)) (fun g r9 I2 f => fq_E (ct_cancel (f 60 (by omega)) I2.2.2.2.2.2.1.1 I2.2.2.2.2.2.1.2 I2.2.2.2.2.2.2.1 z3 ya ))
theorem la_bestLate {E : zE} {L : Nat} {k : Nat → Nat × Nat} {h : Nat → Int → Int} {r : Nat → Int → Option Nat} {l : Nat → Nat → Int64} {n : Nat} (I : LI L k h r n) : zLP Value.int E L M_X11_bestLate M_X12_bestLate [] k h r l n :=
  lp_q I _ (fc_T (ct_bestLate11 I.2.2.2.2.1.1 I.2.2.2.2.1.2  )) (fun g r9 I2 f => fq_E (ct_bestLate (f 60 (by omega)) I2.2.2.2.2.2.1.1 I2.2.2.2.2.2.1.2 I2.2.2.2.2.2.2.1 z3  ))
theorem la_bestGap {E : zE} {L : Nat} {k : Nat → Nat × Nat} {h : Nat → Int → Int} {r : Nat → Int → Option Nat} {l : Nat → Nat → Int64} {n : Nat} (I : LI L k h r n) : zLP Value.int E L M_X11_bestGap M_X12_bestGap [] k h r l n :=
  lp_q I _ (fc_T (ct_bestGap11 I.2.2.2.2.1.1 I.2.2.2.2.1.2  )) (fun g r9 I2 f => fq_E (ct_bestGap (f 60 (by omega)) I2.2.2.2.2.2.1.1 I2.2.2.2.2.2.1.2 I2.2.2.2.2.2.2.1 z3  ))
theorem la_bestStart {E : zE} {L : Nat} {k : Nat → Nat × Nat} {h : Nat → Int → Int} {r : Nat → Int → Option Nat} {l : Nat → Nat → Int64} {n : Nat} (I : LI L k h r n) {a : Int} (ya : zb a) : zLP Value.int E L M_X11_bestStart M_X12_bestStart [.int (iI a)] k h r l n :=
  lp_q I _ (fc_T (ct_bestStart11 I.2.2.2.2.1.1 I.2.2.2.2.1.2  ya)) (fun g r9 I2 f => fq_E (ct_bestStart (f 60 (by omega)) I2.2.2.2.2.2.1.1 I2.2.2.2.2.2.1.2 I2.2.2.2.2.2.2.1 z3 ya ))
theorem la_need {E : zE} {L : Nat} {k : Nat → Nat × Nat} {h : Nat → Int → Int} {r : Nat → Int → Option Nat} {l : Nat → Nat → Int64} {n : Nat} (I : LI L k h r n) {a : Int} (ya : zb a) : zLP Value.int E L M_X11_need M_X12_need [.int (iI a)] k h r l n :=
  lp_q I _ (fc_T (ct_need11 I.2.2.2.2.1.1 I.2.2.2.2.1.2  ya)) (fun g r9 I2 f => fq_E (ct_need (f 60 (by omega)) I2.2.2.2.2.2.1.1 I2.2.2.2.2.2.1.2 I2.2.2.2.2.2.2.1 z3 ya ))
theorem la_snow {E : zE} {L : Nat} {k : Nat → Nat × Nat} {h : Nat → Int → Int} {r : Nat → Int → Option Nat} {l : Nat → Nat → Int64} {n : Nat} (I : LI L k h r n) {a : Int} (ya : zb a) : zLP Value.int E L M_X11_snow M_X12_snow [.int (iI a)] k h r l n :=
  lp_q I _ (fc_T (ct_snow11 I.2.2.2.2.1.1 I.2.2.2.2.1.2  ya)) (fun g r9 I2 f => fq_E (ct_snow (f 60 (by omega)) I2.2.2.2.2.2.1.1 I2.2.2.2.2.2.1.2 I2.2.2.2.2.2.2.1 z3 ya I.2.2.2.2.1.1.2.2.1))
theorem la_law {E : zE} {L : Nat} {k : Nat → Nat × Nat} {h : Nat → Int → Int} {r : Nat → Int → Option Nat} {l : Nat → Nat → Int64} {n : Nat} (I : LI L k h r n) {a : Int} (ya : zb a) : zLP Value.int E L M_X11_law M_X12_law [.int (iI a)] k h r l n :=
  lp_q I _ (fc_T (ct_law11 I.2.2.2.2.1.1 I.2.2.2.2.1.2 I.2.2.1 ya)) (fun g r9 I2 f => fq_E (ct_law (f 60 (by omega)) I2.2.2.2.2.2.1.1 I2.2.2.2.2.2.1.2 I2.2.2.2.2.2.2.1 z3 ya ))
theorem la_two {E : zE} {L : Nat} {k : Nat → Nat × Nat} {h : Nat → Int → Int} {r : Nat → Int → Option Nat} {l : Nat → Nat → Int64} {n : Nat} (I : LI L k h r n) {a : Int} (ya : zb a) {b : Int} (yb : zb b) : zLP Value.int E L M_X11_two M_X12_two [.int (iI a), .int (iI b)] k h r l n :=
  lp_q I _ (zct_w9 (ct_two11 I.2.2.2.2.1.1 I.2.2.2.2.1.2 ya yb) fun _ _ z => z) (fun g r9 I2 f => fq_L (ct_two (f 60 (by omega)) I2.2.2.2.2.2.1.1 I2.2.2.2.2.2.1.2 I2.2.2.2.2.2.2.1 z3 ya yb I.2.2.2.2.1.1.2.1))
theorem la_traveller {E : zE} {L : Nat} {k : Nat → Nat × Nat} {h : Nat → Int → Int} {r : Nat → Int → Option Nat} {l : Nat → Nat → Int64} {n : Nat} (I : LI L k h r n) {a : Int} (ya : zb a) {b : Int} (yb : zb b) : zLP Value.int E L M_X11_traveller M_X12_traveller [.int (iI a), .int (iI b)] k h r l n :=
  lp_q I _ (fc_V (ct_traveller11 I.2.2.2.2.1.1.1 I.2.2.2.2.1.2 ya yb)) (fun g r9 I2 f => fq_V (by
    have z : zCT E 10 _ _ _ 0 0 _ := ct_traveller (E := E) (k := k) (r := r9) (l := l) (n := n) (h := g) I2.2.2.2.2.1.1.1 ya yb
    rw [f 60 (by omega)] at z
    exact z))
theorem la_takes {E : zE} {L : Nat} {k : Nat → Nat × Nat} {h : Nat → Int → Int} {r : Nat → Int → Option Nat} {l : Nat → Nat → Int64} {n : Nat} (I : LI L k h r n) {a : Int} (ya : zb a) {b : Int} (yb : zb b) : zLP Value.int E L M_X11_takes M_X12_takes [.int (iI a), .int (iI b)] k h r l n :=
  lp_q I _ (fc_V (ct_takes11 I.2.2.2.2.1.1.1 I.2.2.2.2.1.2 ya yb)) (fun g r9 I2 f => fq_V (by
    have z : zCT E 10 _ _ _ 0 0 _ := ct_takes (E := E) (k := k) (r := r9) (l := l) (n := n) (h := g) I2.2.2.2.2.1.1.1 ya yb
    rw [f 60 (by omega)] at z
    exact z))
theorem la_refund {E : zE} {L : Nat} {k : Nat → Nat × Nat} {h : Nat → Int → Int} {r : Nat → Int → Option Nat} {l : Nat → Nat → Int64} {n : Nat} (I : LI L k h r n) {a : Int} (ya : zb a) {b : Int} (yb : zb b) : zLP Value.int E L M_X11_refund M_X12_refund [.int (iI a), .int (iI b)] k h r l n :=
  lp_q I _ (fc_V (ct_refund11 I.2.2.2.2.1.1.1 I.2.2.2.2.1.2 ya yb)) (fun g r9 I2 f => fq_V (by
    have z : zCT E 10 _ _ _ 0 0 _ := ct_refund (E := E) (k := k) (r := r9) (l := l) (n := n) (h := g) I2.2.2.2.2.1.1.1 ya yb
    rw [f 60 (by omega)] at z
    exact z))
theorem la_about {E : zE} {L : Nat} {k : Nat → Nat × Nat} {h : Nat → Int → Int} {r : Nat → Int → Option Nat} {l : Nat → Nat → Int64} {n : Nat} (I : LI L k h r n) {a : Int} (ya : zb a) {b : Int} (yb : zb b) : zLP Value.int E L M_X11_about M_X12_about [.int (iI a), .int (iI b)] k h r l n :=
  lp_q I _ (fc_V (ct_about11 I.2.2.2.2.1.1.1 I.2.2.2.2.1.2 ya yb)) (fun g r9 I2 f => fq_V (by
    have z : zCT E 10 _ _ _ 0 0 _ := ct_about (E := E) (k := k) (r := r9) (l := l) (n := n) (h := g) I2.2.2.2.2.1.1.1 ya yb
    rw [f 60 (by omega)] at z
    exact z))
theorem la_count {E : zE} {L : Nat} {k : Nat → Nat × Nat} {h : Nat → Int → Int} {r : Nat → Int → Option Nat} {l : Nat → Nat → Int64} {n : Nat} (I : LI L k h r n) {a : Int} (ya : zb a) : zLP Value.int E L M_X11_count M_X12_count [.int (iI a)] k h r l n :=
  lp_q I _ (fc_V (ct_count11 I.2.2.2.2.1.1 I.2.2.2.2.1.2 ya)) (fun g r9 I2 f => fq_V (by
    have z : zCT E 10 _ _ _ 0 0 _ := ct_count (E := E) (k := k) (r := r9) (l := l) (n := n) (h := g)  ya
    rw [f 60 (by omega)] at z
    exact z))
theorem la_cost {E : zE} {L : Nat} {k : Nat → Nat × Nat} {h : Nat → Int → Int} {r : Nat → Int → Option Nat} {l : Nat → Nat → Int64} {n : Nat} (I : LI L k h r n) {a : Int} (ya : zb a) : zLP Value.int E L M_X11_cost M_X12_cost [.int (iI a)] k h r l n :=
  lp_q I _ (fc_V (ct_cost11 I.2.2.2.1 ya)) (fun g r9 I2 f => fq_V (by
    have z : zCT E 10 _ _ _ 0 0 _ := ct_cost (E := E) (k := k) (r := r9) (l := l) (n := n) (h := g) I2.2.2.2.2.2.2.2.1 ya I2.cost
    rw [sWK_cg (f 80 (by omega)), f 81 (by omega), f 82 (by omega)] at z
    exact z))
theorem la_judge {E : zE} {L : Nat} {k : Nat → Nat × Nat} {h : Nat → Int → Int} {r : Nat → Int → Option Nat} {l : Nat → Nat → Int64} {n : Nat} (I : LI L k h r n) {a : Int} (ya : zb a) {b : Int} (yb : zb b) : zLP Value.int E L M_X11_judge M_X12_judge [.int (iI a), .int (iI b)] k h r l n :=
  lp_q I _ (fc_F (ct_judge11 I.2.2.2.2.1.1 I.2.2.2.2.1.2 I.2.2.2.1 ya yb)) (fun g r9 I2 f => fq_E (by
    have z : zCT E 10 _ _ _ 0 0 _ := ct_judge (E := E) (k := k) (r := r9) (l := l) (n := n) (h := g) (f 60 (by omega)) I2.2.2.2.2.2.1.1 I2.2.2.2.2.2.1.2 I2.2.2.2.2.2.2.1 z3 I2.2.2.2.2.2.2.2.1 ya yb
    rw [sWR_cg (f 80 (by omega)) (f 83 (by omega)), sJw_cg (f 83 (by omega)) (f 85 (by omega)), f 84 (by omega)] at z
    exact z))
theorem la_tickets {E : zE} {L : Nat} {k : Nat → Nat × Nat} {h : Nat → Int → Int} {r : Nat → Int → Option Nat} {l : Nat → Nat → Int64} {n : Nat} (I : LI L k h r n) {a : Int} (ya : zb a) {b : Int} (yb : zb b) : zLP Value.int E L M_X11_tickets M_X12_tickets [.int (iI a), .int (iI b)] k h r l n :=
  lp_q I _ (fc_T (ct_tickets11 I.2.2.2.2.1.1 I.2.2.2.2.1.2 I.2.2.2.1 ya yb)) (fun g r9 I2 f => fq_E (by
    have z : zCT E 10 _ _ _ 0 0 _ := ct_tickets (E := E) (k := k) (r := r9) (l := l) (n := n) (h := g) (f 60 (by omega)) I2.2.2.2.2.2.1.1 I2.2.2.2.2.2.1.2 I2.2.2.2.2.2.2.1 z3 I2.2.2.2.2.2.2.2.1 ya yb
    rw [sWR_cg (f 80 (by omega)) (f 83 (by omega)), dTk_c9 (f 83 (by omega)) (f 84 (by omega)) (f 85 (by omega)), f 84 (by omega)] at z
    exact z))
theorem la_forged {E : zE} {L : Nat} {k : Nat → Nat × Nat} {h : Nat → Int → Int} {r : Nat → Int → Option Nat} {l : Nat → Nat → Int64} {n : Nat} (I : LI L k h r n) {a : Int} (ya : zb a) : zLP Value.int E L M_X11_forged M_X12_forged [.int (iI a)] k h r l n :=
  lp_q I _ (fc_T (ct_forged11 I.2.2.2.2.1.1 I.2.2.2.2.1.2 I.2.2.2.1 ya)) (fun g r9 I2 f => fq_E (by
    have z : zCT E 10 _ _ _ 0 0 _ := ct_forged (E := E) (k := k) (r := r9) (l := l) (n := n) (h := g) (f 60 (by omega)) I2.2.2.2.2.2.1.1 I2.2.2.2.2.2.1.2 I2.2.2.2.2.2.2.1 z3 I2.2.2.2.2.2.2.2.1 ya
    rw [sWR_cg (f 80 (by omega)) (f 83 (by omega)), dTk_c9 (f 83 (by omega)) (f 84 (by omega)) (f 85 (by omega)), f 84 (by omega)] at z
    exact z))
