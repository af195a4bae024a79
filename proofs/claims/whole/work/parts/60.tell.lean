/-! a statement is told to the plan of trials -/
theorem zkF_eq {k k' : Nat → Nat × Nat} {v : Nat} (e : k' v = k v) : zkF k' v = zkF k v := by
  unfold zkF
  rw [e]
theorem wk_up {k k' : Nat → Nat × Nat} {h h' : Nat → Int → Int} {v : Nat} {K F : Int} (w : wk k h v K F) (ek : k' v = k v) (eh : h' v = h v) : wk k' h' v K F := by
  obtain ⟨w1, ⟨w2, w3⟩, w4⟩ := w
  exact ⟨by rw [zkF_eq ek]; exact w1, ⟨by rw [eh]; exact w2, by rw [eh]; exact w3⟩, w4⟩
theorem cR_up {P a1 a2 a3 a4 a5 a6 a7 a8 a9 : Nat} {k k' : Nat → Nat × Nat} {h h' : Nat → Int → Int} {r r' : Nat → Int → Option Nat} {n n' : Nat} {p : Int → Int} {w : Int} (c : cR P a1 a2 a3 a4 a5 a6 a7 a8 a9 k h r n p w) (hp : cnP p w ≤ 8) (ek : ∀ a, a < n → k' a = k a) (eh : ∀ a, a < n → h' a = h a) (er : r' a1 = r a1) (nn : n ≤ n') (b0 : P < n) (b2 : a2 < n) (b3 : a3 < n) (b4 : a4 < n) (b5 : a5 < n) (b6 : a6 < n) (b7 : a7 < n) (b8 : a8 < n) (b9 : a9 < n) : cR P a1 a2 a3 a4 a5 a6 a7 a8 a9 k' h' r' n' p w := by
  obtain ⟨⟨c0, c5⟩, c1, c2, c3, c4, c6⟩ := c
  unfold cR
  rw [eh P b0, eh a2 b2, eh a3 b3, eh a4 b4, eh a5 b5, eh a6 b6, eh a7 b7, eh a8 b8, eh a9 b9, er]
  refine ⟨⟨c0, c5⟩, fun t t0 t1 => ?_, fun t t0 t1 => ?_, c3, c4, c6⟩
  · obtain ⟨u, u1, u2, u3⟩ := c1 t t0 t1
    obtain ⟨v, c, v1, v2, v3, v4⟩ := c2 t t0 (by omega)
    rw [u1] at v1
    cases v1
    exact ⟨u, u1, wk_up u2 (ek u v4) (eh u v4), u3⟩
  · obtain ⟨v, c, v1, v2, v3, v4⟩ := c2 t t0 t1
    exact ⟨v, c, v1, by rw [zkF_eq (ek v v4)]; exact v2, v3, by omega⟩
/-- what telling leaves: at most one name more, all but the trial plan as it was -/
def tE (k : Nat → Nat × Nat) (h : Nat → Int → Int) (r : Nat → Int → Option Nat) (l : Nat → Nat → Int64) (n : Nat) (k' : Nat → Nat × Nat) (g : Nat → Int → Int) (r9 : Nat → Int → Option Nat) (l' : Nat → Nat → Int64) (n' : Nat) : Prop := n ≤ n' ∧ n' ≤ n + 1 ∧ ∀ a, a < n → k' a = k a ∧ l' a = l a ∧ ((a < 15 ∨ 24 < a) → g a = h a) ∧ (¬ a = 16 → r9 a = r a)
theorem tE_h {k : Nat → Nat × Nat} {h g : Nat → Int → Int} {r : Nat → Int → Option Nat} {l : Nat → Nat → Int64} {n : Nat} (f : ∀ q : Nat, q < 15 ∨ 24 < q → g q = h q) : tE k h r l n k g r l n := ⟨Nat.le_refl _, Nat.le_succ _, fun a _ => ⟨rfl, rfl, f a, fun _ => rfl⟩⟩
theorem ct_tellRun {E : zE} {d : Nat} {k : Nat → Nat × Nat} {h : Nat → Int → Int} {r : Nat → Int → Option Nat} {l : Nat → Nat → Int64} {n : Nat} {p : Int → Int} (hR : cR 15 16 17 18 19 20 21 22 23 24 k h r n p (-4)) (hS : pS p) {a b : Int} (za : zb a) (z2 : zb b) : zCT E (d + 1) M_X3_tellRun [.ref 15, .int (iI (a)), .int (iI (b))] (zJ (k, h, r, l, n)) 0 0 (zVx (.int (iI (if (0 ≤ a ∧ a ≤ 3) ∧ (1 ≤ b ∧ b ≤ 60) then 1 else 0))) (fun s => ∃ k2 g r2 l2 n2, s = zJ (k2, g, r2, l2, n2) ∧ tE k h r l n k2 g r2 l2 n2 ∧ cR 15 16 17 18 19 20 21 22 23 24 k2 g r2 n2 (if (0 ≤ a ∧ a ≤ 3) ∧ (1 ≤ b ∧ b ≤ 60) then zp p (7 + a) b else p) (-4))) := by
  have ok := ok_X3_tellRun
  refine zCT_of pn_X3_tellRun (Nat.le_of_ble_eq_true rfl) ?_
  show zGo _ _ _ _ _ _ 0 ([some (.ref 15), some (.int (iI (a))), some (.int (iI (b)))], [], _, _, _)
  refine s_ldI1 ok rfl ?_
  refine s_callS ok rfl rfl rfl rfl (ct_pisPiece za) ?_
  refine s_if_eq ok rfl zif01 (fun c4 => ?_) (fun c4 => ?_)
  · refine s_ci ok rfl ?_
    refine s_retZ ok rfl (by first | exact Or.inl rfl | exact Or.inr rfl) ⟨congrArg (fun z => some (Value.int (iI z))) (if_neg (fun q => by first | exact zif_f c11 q.2 | exact zif_f c4 q.1)).symm, ⟨k, h, r, l, n, rfl, tE_h (fun _ _ => rfl), (by rw [if_neg (fun q => by first | exact zif_f c11 q.2 | exact zif_f c4 q.1)]; exact hR)⟩⟩
  · refine s_ldI2 ok rfl ?_
    refine s_callS ok rfl rfl rfl rfl (ct_pisRun z2) ?_
    refine s_if_eq ok rfl zif01 (fun c11 => ?_) (fun c11 => ?_)
    · refine s_ci ok rfl ?_
      refine s_retZ ok rfl (by first | exact Or.inl rfl | exact Or.inr rfl) ⟨congrArg (fun z => some (Value.int (iI z))) (if_neg (fun q => by first | exact zif_f c11 q.2 | exact zif_f c4 q.1)).symm, ⟨k, h, r, l, n, rfl, tE_h (fun _ _ => rfl), (by rw [if_neg (fun q => by first | exact zif_f c11 q.2 | exact zif_f c4 q.1)]; exact hR)⟩⟩
    · have yy : (0 ≤ a ∧ a ≤ 3) ∧ (1 ≤ b ∧ b ≤ 60) := ⟨zif_t c4, zif_t c11⟩
      refine s_ldA0 ok rfl ?_
      refine s_getF ok rfl rfl rfl rfl ?_
      refine s_ldI1 ok rfl ?_
      refine s_ldI2 ok rfl ?_
      refine s_iast ok rfl (by exact rfl) (by exact rfl) (by omega) (by omega) (fun q => by cases q) ?_
      refine s_ci ok rfl ?_
      refine s_retZ ok rfl (by first | exact Or.inl rfl | exact Or.inr rfl) ⟨congrArg (fun z => some (Value.int (iI z))) (if_pos yy).symm, k, _, r, l, n, rfl, tE_h (fun q hq => zv_other (by omega)), (by rw [if_pos yy]; exact cR15_run hR (by omega) (by omega))⟩
theorem ct_tellTrain {E : zE} {d : Nat} {k : Nat → Nat × Nat} {h : Nat → Int → Int} {r : Nat → Int → Option Nat} {l : Nat → Nat → Int64} {n : Nat} {p : Int → Int} (hR : cR 15 16 17 18 19 20 21 22 23 24 k h r n p (-4)) (hS : pS p) {a b : Int} (za : zb a) (z2 : zb b) : zCT E (d + 1) M_X3_tellTrain [.ref 15, .int (iI (a)), .int (iI (b))] (zJ (k, h, r, l, n)) 0 0 (zVx (.int (iI (if (0 ≤ a ∧ a ≤ 300) ∧ (0 ≤ b ∧ b ≤ 9) ∧ p 0 < 4 then 1 else 0))) (fun s => ∃ k2 g r2 l2 n2, s = zJ (k2, g, r2, l2, n2) ∧ tE k h r l n k2 g r2 l2 n2 ∧ cR 15 16 17 18 19 20 21 22 23 24 k2 g r2 n2 (if (0 ≤ a ∧ a ≤ 300) ∧ (0 ≤ b ∧ b ≤ 9) ∧ p 0 < 4 then zp (zp (zp p (11 + 2 * p 0) a) (11 + 2 * p 0 + 1) b) 0 (p 0 + 1) else p) (-4))) := by
  have ok := ok_X3_tellTrain
  refine zCT_of pn_X3_tellTrain (Nat.le_of_ble_eq_true rfl) ?_
  show zGo _ _ _ _ _ _ 0 ([some (.ref 15), some (.int (iI (a))), some (.int (iI (b)))], [], _, _, _)
  refine s_ldI1 ok rfl ?_
  refine s_callS ok rfl rfl rfl rfl (ct_pisStart za) ?_
  refine s_if_eq ok rfl zif01 (fun c4 => ?_) (fun c4 => ?_)
  · refine s_ci ok rfl ?_
    refine s_retZ ok rfl (by first | exact Or.inl rfl | exact Or.inr rfl) (by first | exact ⟨congrArg (fun z => some (Value.int (iI z))) (if_pos yy).symm, k, _, r, l, n, rfl, tE_h (fun q hq => f17 q hq), (by rw [if_pos yy.2.2] at q17; rw [if_pos yy]; exact q17)⟩ | exact ⟨congrArg (fun z => some (Value.int (iI z))) (if_neg (fun q => by first | exact zif_f c20 q.2.2 | exact zif_f c11 q.2.1 | exact zif_f c4 q.1)).symm, k, _, r, l, n, rfl, tE_h (fun q hq => f17 q hq), (by rw [if_neg (zif_f c20)] at q17; rw [if_neg (fun q => by first | exact zif_f c20 q.2.2 | exact zif_f c11 q.2.1 | exact zif_f c4 q.1)]; exact q17)⟩ | exact ⟨congrArg (fun z => some (Value.int (iI z))) (if_neg (fun q => by first | exact zif_f c20 q.2.2 | exact zif_f c11 q.2.1 | exact zif_f c4 q.1)).symm, ⟨k, h, r, l, n, rfl, tE_h (fun _ _ => rfl), (by rw [if_neg (fun q => by first | exact zif_f c20 q.2.2 | exact zif_f c11 q.2.1 | exact zif_f c4 q.1)]; exact hR)⟩⟩)
  · refine s_ldI2 ok rfl ?_
    refine s_callS ok rfl rfl rfl rfl (ct_pisSeats z2) ?_
    refine s_if_eq ok rfl zif01 (fun c11 => ?_) (fun c11 => ?_)
    · refine s_ci ok rfl ?_
      refine s_retZ ok rfl (by first | exact Or.inl rfl | exact Or.inr rfl) (by first | exact ⟨congrArg (fun z => some (Value.int (iI z))) (if_pos yy).symm, k, _, r, l, n, rfl, tE_h (fun q hq => f17 q hq), (by rw [if_pos yy.2.2] at q17; rw [if_pos yy]; exact q17)⟩ | exact ⟨congrArg (fun z => some (Value.int (iI z))) (if_neg (fun q => by first | exact zif_f c20 q.2.2 | exact zif_f c11 q.2.1 | exact zif_f c4 q.1)).symm, k, _, r, l, n, rfl, tE_h (fun q hq => f17 q hq), (by rw [if_neg (zif_f c20)] at q17; rw [if_neg (fun q => by first | exact zif_f c20 q.2.2 | exact zif_f c11 q.2.1 | exact zif_f c4 q.1)]; exact q17)⟩ | exact ⟨congrArg (fun z => some (Value.int (iI z))) (if_neg (fun q => by first | exact zif_f c20 q.2.2 | exact zif_f c11 q.2.1 | exact zif_f c4 q.1)).symm, ⟨k, h, r, l, n, rfl, tE_h (fun _ _ => rfl), (by rw [if_neg (fun q => by first | exact zif_f c20 q.2.2 | exact zif_f c11 q.2.1 | exact zif_f c4 q.1)]; exact hR)⟩⟩)
    · refine s_ldA0 ok rfl ?_
      refine s_ldI1 ok rfl ?_
      refine s_ldI2 ok rfl ?_
      refine s_callVx ok rfl rfl rfl rfl rfl rfl (ct_addTrain15 hR hS.1.1 hS.1.2.1 hS.1.2.2.1 hS.2.2.2.2) (fun σ17 hσ17 => ?_)
      obtain ⟨g17, rfl, hg17⟩ := hσ17
      obtain ⟨f17, q17⟩ := hg17
      refine s_if_eq ok rfl zif01 (fun c20 => ?_) (fun c20 => ?_)
      · refine s_ci ok rfl ?_
        refine s_retZ ok rfl (by first | exact Or.inl rfl | exact Or.inr rfl) (by first | exact ⟨congrArg (fun z => some (Value.int (iI z))) (if_pos yy).symm, k, _, r, l, n, rfl, tE_h (fun q hq => f17 q hq), (by rw [if_pos yy.2.2] at q17; rw [if_pos yy]; exact q17)⟩ | exact ⟨congrArg (fun z => some (Value.int (iI z))) (if_neg (fun q => by first | exact zif_f c20 q.2.2 | exact zif_f c11 q.2.1 | exact zif_f c4 q.1)).symm, k, _, r, l, n, rfl, tE_h (fun q hq => f17 q hq), (by rw [if_neg (zif_f c20)] at q17; rw [if_neg (fun q => by first | exact zif_f c20 q.2.2 | exact zif_f c11 q.2.1 | exact zif_f c4 q.1)]; exact q17)⟩ | exact ⟨congrArg (fun z => some (Value.int (iI z))) (if_neg (fun q => by first | exact zif_f c20 q.2.2 | exact zif_f c11 q.2.1 | exact zif_f c4 q.1)).symm, ⟨k, h, r, l, n, rfl, tE_h (fun _ _ => rfl), (by rw [if_neg (fun q => by first | exact zif_f c20 q.2.2 | exact zif_f c11 q.2.1 | exact zif_f c4 q.1)]; exact hR)⟩⟩)
      · have yy : (0 ≤ a ∧ a ≤ 300) ∧ (0 ≤ b ∧ b ≤ 9) ∧ p 0 < 4 := ⟨zif_t c4, zif_t c11, zif_t c20⟩
        refine s_ci ok rfl ?_
        refine s_goto ok rfl ?_
        refine s_retZ ok rfl (by first | exact Or.inl rfl | exact Or.inr rfl) (by first | exact ⟨congrArg (fun z => some (Value.int (iI z))) (if_pos yy).symm, k, _, r, l, n, rfl, tE_h (fun q hq => f17 q hq), (by rw [if_pos yy.2.2] at q17; rw [if_pos yy]; exact q17)⟩ | exact ⟨congrArg (fun z => some (Value.int (iI z))) (if_neg (fun q => by first | exact zif_f c20 q.2.2 | exact zif_f c11 q.2.1 | exact zif_f c4 q.1)).symm, k, _, r, l, n, rfl, tE_h (fun q hq => f17 q hq), (by rw [if_neg (zif_f c20)] at q17; rw [if_neg (fun q => by first | exact zif_f c20 q.2.2 | exact zif_f c11 q.2.1 | exact zif_f c4 q.1)]; exact q17)⟩ | exact ⟨congrArg (fun z => some (Value.int (iI z))) (if_neg (fun q => by first | exact zif_f c20 q.2.2 | exact zif_f c11 q.2.1 | exact zif_f c4 q.1)).symm, ⟨k, h, r, l, n, rfl, tE_h (fun _ _ => rfl), (by rw [if_neg (fun q => by first | exact zif_f c20 q.2.2 | exact zif_f c11 q.2.1 | exact zif_f c4 q.1)]; exact hR)⟩⟩)
theorem ct_tellRule {E : zE} {d : Nat} {k : Nat → Nat × Nat} {h : Nat → Int → Int} {r : Nat → Int → Option Nat} {l : Nat → Nat → Int64} {n : Nat} {p : Int → Int} (hR : cR 15 16 17 18 19 20 21 22 23 24 k h r n p (-4)) (hS : pS p) (hC : cS k h) {a b : Int} (za : zb a) (z2 : zb b) : zCT E (d + 1) M_X3_tellRule [.ref 15, .int (iI (a)), .int (iI (b))] (zJ (k, h, r, l, n)) 0 0 (zVx (.int (iI (if sRu a b then 1 else 0))) (fun s => ∃ k2 g r2 l2 n2, s = zJ (k2, g, r2, l2, n2) ∧ tE k h r l n k2 g r2 l2 n2 ∧ cR 15 16 17 18 19 20 21 22 23 24 k2 g r2 n2 (if sRu a b then zp p (2 + a) b else p) (-4))) := by
  have ok := ok_X3_tellRule
  refine zCT_of pn_X3_tellRule (Nat.le_of_ble_eq_true rfl) ?_
  show zGo _ _ _ _ _ _ 0 ([some (.ref 15), some (.int (iI (a))), some (.int (iI (b)))], [], _, _, _)
  refine s_ldI1 ok rfl ?_
  refine s_ldI2 ok rfl ?_
  refine s_callS ok rfl rfl rfl rfl (ct_pisRule hC za z2) ?_
  refine s_if_eq ok rfl zif01 (fun c5 => ?_) (fun c5 => ?_)
  · refine s_ci ok rfl ?_
    refine s_retZ ok rfl (by first | exact Or.inl rfl | exact Or.inr rfl) ⟨congrArg (fun z => some (Value.int (iI z))) (if_neg (fun q => zif_f c5 q)).symm, ⟨k, h, r, l, n, rfl, tE_h (fun _ _ => rfl), (by rw [if_neg (fun q => zif_f c5 q)]; exact hR)⟩⟩
  · have yy : sRu a b := zif_t c5
    have y0 := yy.1
    have y1 := yy.2.1
    refine s_ldA0 ok rfl ?_
    refine s_getF ok rfl rfl rfl rfl ?_
    refine s_ldI1 ok rfl ?_
    refine s_ldI2 ok rfl ?_
    refine s_iast ok rfl (by exact rfl) (by exact rfl) (by omega) (by omega) (fun q => by cases q) ?_
    refine s_ci ok rfl ?_
    refine s_retZ ok rfl (by first | exact Or.inl rfl | exact Or.inr rfl) ⟨congrArg (fun z => some (Value.int (iI z))) (if_pos yy).symm, k, _, r, l, n, rfl, tE_h (fun q hq => zv_other (by omega)), (by rw [if_pos yy]; exact cR15_rule hR (by omega) (by omega))⟩
theorem ct_tellCancelled {E : zE} {d : Nat} {k : Nat → Nat × Nat} {h : Nat → Int → Int} {r : Nat → Int → Option Nat} {l : Nat → Nat → Int64} {n : Nat} {p : Int → Int} (hR : cR 15 16 17 18 19 20 21 22 23 24 k h r n p (-4)) (hS : pS p) {a : Int} (za : zb a) : zCT E (d + 2) M_X3_tellCancelled [.ref 15, .int (iI (a))] (zJ (k, h, r, l, n)) 0 0 (zVx (.int (iI (if 0 ≤ a ∧ a < p 0 then 1 else 0))) (fun s => ∃ k2 g r2 l2 n2, s = zJ (k2, g, r2, l2, n2) ∧ tE k h r l n k2 g r2 l2 n2 ∧ cR 15 16 17 18 19 20 21 22 23 24 k2 g r2 n2 (if 0 ≤ a ∧ a < p 0 then zp p 1 (zxb (p 1) a) else p) (-4))) := by
  have ok := ok_X3_tellCancelled
  refine zCT_of pn_X3_tellCancelled (Nat.le_of_ble_eq_true rfl) ?_
  show zGo _ _ _ _ _ _ 0 ([some (.ref 15), some (.int (iI (a)))], [], _, _, _)
  refine s_ldA0 ok rfl ?_
  refine s_ldI1 ok rfl ?_
  refine s_callV ok rfl rfl rfl rfl rfl rfl (ct_pisTrain15 hR.1.2 hS.1.1 hS.1.2.1 za) ?_
  refine s_if_eq ok rfl zif01 (fun c5 => ?_) (fun c5 => ?_)
  · refine s_ci ok rfl ?_
    refine s_retZ ok rfl (by first | exact Or.inl rfl | exact Or.inr rfl) ⟨congrArg (fun z => some (Value.int (iI z))) (if_neg (fun q => zif_f c5 q)).symm, ⟨k, h, r, l, n, rfl, tE_h (fun _ _ => rfl), (by rw [if_neg (fun q => zif_f c5 q)]; exact hR)⟩⟩
  · have yy : 0 ≤ a ∧ a < p 0 := zif_t c5
    refine s_ldA0 ok rfl ?_
    refine s_ldI1 ok rfl ?_
    refine s_callVvx ok rfl rfl rfl rfl rfl rfl (ct_turn15 hR yy.1 yy.2 hS.1.2.1 hS.1.2.2.1 hS.1.2.2.2.1) (fun σ12 hσ12 => ?_)
    obtain ⟨g12, rfl, f12, q12⟩ := hσ12
    refine s_ci ok rfl ?_
    refine s_retZ ok rfl (by first | exact Or.inl rfl | exact Or.inr rfl) ⟨congrArg (fun z => some (Value.int (iI z))) (if_pos yy).symm, k, _, r, l, n, rfl, tE_h (fun q hq => by rw [f12]; exact zv_other (by omega)), (by rw [if_pos yy]; exact q12)⟩
theorem zif_iI {c : Prop} [Decidable c] : iI (if c then 1 else 0) = iI 0 ∨ iI (if c then 1 else 0) = iI 1 := by
  by_cases q : c
  · rw [if_pos q]; exact Or.inr rfl
  · rw [if_neg q]; exact Or.inl rfl
theorem pPn_cg {k : Nat → Nat × Nat} {h : Nat → Int → Int} {r : Nat → Int → Option Nat} {n : Nat} {p N : Int → Int} (c : cR 15 16 17 18 19 20 21 22 23 24 k h r n (pPn p (fun i : Int => if i = 0 then N 0 else if i = 1 then N 1 else if i = 2 then N 2 else if i = 3 then N 3 else N 4)) (-4)) : cR 15 16 17 18 19 20 21 22 23 24 k h r n (pPn p N) (-4) := by
  have e : pPn p (fun i : Int => if i = 0 then N 0 else if i = 1 then N 1 else if i = 2 then N 2 else if i = 3 then N 3 else N 4) = pPn p N := by
    funext j
    unfold pPn
    by_cases c6 : j = 6
    · rw [if_pos c6, if_pos c6]
    · rw [if_neg c6, if_neg c6]
      by_cases q : 19 + 5 * p 6 ≤ j ∧ j < 19 + 5 * p 6 + 5
      · rw [if_pos q, if_pos q]
        generalize hj : j - (19 + 5 * p 6) = t
        rcases (by omega : t = 0 ∨ t = 1 ∨ t = 2 ∨ t = 3 ∨ t = 4) with e | e | e | e | e <;> subst e <;> rfl
      · rw [if_neg q, if_neg q]
  rw [← e]
  exact c
theorem ct_tellPerson {E : zE} {d : Nat} {k : Nat → Nat × Nat} {h : Nat → Int → Int} {r : Nat → Int → Option Nat} {l : Nat → Nat → Int64} {n : Nat} {p : Int → Int} (hR : cR 15 16 17 18 19 20 21 22 23 24 k h r n p (-4)) (hS : pS p) (hn : 87 ≤ n) {w ar L : Nat} {so : Int} (hw : rw_ k h r w ar L so) {a : Int} (a0 : 0 ≤ a) (a1 : a ≤ 200) (hx : (tc (h ar) L) a = 112) (hN : nR 112 (nN (tc (h ar) L) a)) : zCT E (d + 5) M_X3_tellPerson [.ref 15, .ref w, .int (iI (a))] (zJ (k, h, r, l, n)) 1 2 (zVx (.int (iI (if (nN (tc (h ar) L) a 0 < 8 ∧ (nN (tc (h ar) L) a 2 < nN (tc (h ar) L) a 3 ∧ nN (tc (h ar) L) a 3 < 5) ∧ nN (tc (h ar) L) a 4 ≤ 300 ∧ ¬ p 6 = 8) then 1 else 0))) (fun s => ∃ k2 g r2 l2 n2, s = zJ (k2, g, r2, l2, n2) ∧ tE k h r l n k2 g r2 l2 n2 ∧ cR 15 16 17 18 19 20 21 22 23 24 k2 g r2 n2 (if (nN (tc (h ar) L) a 0 < 8 ∧ (nN (tc (h ar) L) a 2 < nN (tc (h ar) L) a 3 ∧ nN (tc (h ar) L) a 3 < 5) ∧ nN (tc (h ar) L) a 4 ≤ 300 ∧ ¬ p 6 = 8) then pPn p (nN (tc (h ar) L) a) else p) (-4))) := by
  have ok := ok_X3_tellPerson
  refine zCT_of pn_X3_tellPerson (Nat.le_of_ble_eq_true rfl) ?_
  show zGo _ _ _ _ _ _ 0 ([some (.ref 15), some (.ref w), some (.int (iI (a))), none, none, none, none, none], [], _, _, _)
  have e0 : nm (tc (h ar) L) (a + 1) 1 = nN (tc (h ar) L) a 0 := by
    unfold nN
    rw [if_neg (by omega), if_neg (by omega), if_pos hx, if_neg (by omega), show a + 1 + 0 = a + 1 by omega]
  have e1 : nm (tc (h ar) L) (a + 2) 1 = nN (tc (h ar) L) a 1 := by
    unfold nN
    rw [if_neg (by omega), if_neg (by omega), if_pos hx, if_neg (by omega), show a + 1 + 1 = a + 2 by omega]
  have e2 : nm (tc (h ar) L) (a + 3) 1 = nN (tc (h ar) L) a 2 := by
    unfold nN
    rw [if_neg (by omega), if_neg (by omega), if_pos hx, if_neg (by omega), show a + 1 + 2 = a + 3 by omega]
  have e3 : nm (tc (h ar) L) (a + 4) 1 = nN (tc (h ar) L) a 3 := by
    unfold nN
    rw [if_neg (by omega), if_neg (by omega), if_pos hx, if_neg (by omega), show a + 1 + 3 = a + 4 by omega]
  have e4 : nm (tc (h ar) L) (a + 5) 3 = nN (tc (h ar) L) a 4 := by
    unfold nN
    rw [if_neg (by omega), if_neg (by omega), if_pos hx, if_pos rfl, show a + 1 + 4 = a + 5 by omega]
  have kq : kN 112 = 5 := rfl
  have b0 := hN.1 0 (by omega) (by omega)
  have b1 := hN.1 1 (by omega) (by omega)
  have b2 := hN.1 2 (by omega) (by omega)
  have b3 := hN.1 3 (by omega) (by omega)
  have b4 := hN.1 4 (by omega) (by omega)
  have b9 := hN.2.1 (Or.inr rfl)
  have p60 := hS.1.2.2.2.2.2.2.2.2.2.2.2.2.1
  have p68 := hS.1.2.2.2.2.2.2.2.2.2.2.2.2.2.1
  refine s_ldA1 ok rfl ?_
  refine s_ldI2 ok rfl ?_
  refine s_ci ok rfl ?_
  refine s_add ok rfl ?_
  refine s_ci ok rfl ?_
  refine s_callV ok rfl rfl rfl rfl hw.1 rfl (ct_rnumber hw (a := a + 1) (dg := 1) (by omega) (by omega) (by omega)) ?_
  rw [e0]
  refine s_stI3 ok rfl rfl ?_
  refine s_ldA1 ok rfl ?_
  refine s_ldI2 ok rfl ?_
  refine s_ci ok rfl ?_
  refine s_add ok rfl ?_
  refine s_ci ok rfl ?_
  refine s_callV ok rfl rfl rfl rfl hw.1 rfl (ct_rnumber hw (a := a + 2) (dg := 1) (by omega) (by omega) (by omega)) ?_
  rw [e1]
  refine s_stI4 ok rfl rfl ?_
  refine s_ldA1 ok rfl ?_
  refine s_ldI2 ok rfl ?_
  refine s_ci ok rfl ?_
  refine s_add ok rfl ?_
  refine s_ci ok rfl ?_
  refine s_callV ok rfl rfl rfl rfl hw.1 rfl (ct_rnumber hw (a := a + 3) (dg := 1) (by omega) (by omega) (by omega)) ?_
  rw [e2]
  refine s_stI5 ok rfl rfl ?_
  refine s_ldA1 ok rfl ?_
  refine s_ldI2 ok rfl ?_
  refine s_ci ok rfl ?_
  refine s_add ok rfl ?_
  refine s_ci ok rfl ?_
  refine s_callV ok rfl rfl rfl rfl hw.1 rfl (ct_rnumber hw (a := a + 4) (dg := 1) (by omega) (by omega) (by omega)) ?_
  rw [e3]
  refine s_stI6 ok rfl rfl ?_
  refine s_ldA1 ok rfl ?_
  refine s_ldI2 ok rfl ?_
  refine s_ci ok rfl ?_
  refine s_add ok rfl ?_
  refine s_ci ok rfl ?_
  refine s_callV ok rfl rfl rfl rfl hw.1 rfl (ct_rnumber hw (a := a + 5) (dg := 3) (by omega) (by omega) (by omega)) ?_
  rw [e4]
  refine s_stI7 ok rfl rfl ?_
  refine s_ldI3 ok rfl ?_
  refine s_callS ok rfl rfl rfl rfl (ct_pisKind (by exact ⟨by omega, by omega⟩)) ?_
  refine s_if_eq ok rfl zif01 (fun c53 => ?_) (fun c53 => ?_)
  · refine s_ci ok rfl ?_
    refine s_retZ ok rfl (by first | exact Or.inl rfl | exact Or.inr rfl | exact zif_iI) ⟨congrArg (fun z => some (Value.int (iI z))) (if_neg (fun q => by first | omega | (have z := zif_f c53; omega) | (have z := zif_f c61; omega) | (have z := zif_f c69; omega) | (have z := zif_f c79; omega) | (have z := zif_f c87; omega))).symm, ⟨k, h, r, l, n, rfl, tE_h (fun _ _ => rfl), (by rw [if_neg (fun q => by first | omega | (have z := zif_f c53; omega) | (have z := zif_f c61; omega) | (have z := zif_f c69; omega) | (have z := zif_f c79; omega) | (have z := zif_f c87; omega))]; exact hR)⟩⟩
  · refine s_ldI4 ok rfl ?_
    refine s_callS ok rfl rfl rfl rfl (ct_pisFigure (by exact ⟨by omega, by omega⟩)) ?_
    refine s_if_eq ok rfl zif01 (fun c61 => ?_) (fun c61 => ?_)
    · refine s_ci ok rfl ?_
      refine s_retZ ok rfl (by first | exact Or.inl rfl | exact Or.inr rfl | exact zif_iI) ⟨congrArg (fun z => some (Value.int (iI z))) (if_neg (fun q => by first | omega | (have z := zif_f c53; omega) | (have z := zif_f c61; omega) | (have z := zif_f c69; omega) | (have z := zif_f c79; omega) | (have z := zif_f c87; omega))).symm, ⟨k, h, r, l, n, rfl, tE_h (fun _ _ => rfl), (by rw [if_neg (fun q => by first | omega | (have z := zif_f c53; omega) | (have z := zif_f c61; omega) | (have z := zif_f c69; omega) | (have z := zif_f c79; omega) | (have z := zif_f c87; omega))]; exact hR)⟩⟩
    · refine s_ldI7 ok rfl ?_
      refine s_callS ok rfl rfl rfl rfl (ct_pisBase (by exact ⟨by omega, by omega⟩)) ?_
      refine s_if_eq ok rfl zif01 (fun c69 => ?_) (fun c69 => ?_)
      · refine s_ci ok rfl ?_
        refine s_retZ ok rfl (by first | exact Or.inl rfl | exact Or.inr rfl | exact zif_iI) ⟨congrArg (fun z => some (Value.int (iI z))) (if_neg (fun q => by first | omega | (have z := zif_f c53; omega) | (have z := zif_f c61; omega) | (have z := zif_f c69; omega) | (have z := zif_f c79; omega) | (have z := zif_f c87; omega))).symm, ⟨k, h, r, l, n, rfl, tE_h (fun _ _ => rfl), (by rw [if_neg (fun q => by first | omega | (have z := zif_f c53; omega) | (have z := zif_f c61; omega) | (have z := zif_f c69; omega) | (have z := zif_f c79; omega) | (have z := zif_f c87; omega))]; exact hR)⟩⟩
      · refine s_ldI5 ok rfl ?_
        refine s_callS ok rfl rfl rfl rfl (ct_pisStop (by exact ⟨by omega, by omega⟩)) ?_
        refine s_if_eq ok rfl zif01 (fun c79 => ?_) (fun c79 => ?_)
        · refine s_ci ok rfl ?_
          refine s_retZ ok rfl (by first | exact Or.inl rfl | exact Or.inr rfl | exact zif_iI) ⟨congrArg (fun z => some (Value.int (iI z))) (if_neg (fun q => by first | omega | (have z := zif_f c53; omega) | (have z := zif_f c61; omega) | (have z := zif_f c69; omega) | (have z := zif_f c79; omega) | (have z := zif_f c87; omega))).symm, ⟨k, h, r, l, n, rfl, tE_h (fun _ _ => rfl), (by rw [if_neg (fun q => by first | omega | (have z := zif_f c53; omega) | (have z := zif_f c61; omega) | (have z := zif_f c69; omega) | (have z := zif_f c79; omega) | (have z := zif_f c87; omega))]; exact hR)⟩⟩
        · refine s_ldI6 ok rfl ?_
          refine s_callS ok rfl rfl rfl rfl (ct_pisStop (by exact ⟨by omega, by omega⟩)) ?_
          refine s_if_eq ok rfl zif01 (fun c87 => ?_) (fun c87 => ?_)
          · refine s_ci ok rfl ?_
            refine s_retZ ok rfl (by first | exact Or.inl rfl | exact Or.inr rfl | exact zif_iI) ⟨congrArg (fun z => some (Value.int (iI z))) (if_neg (fun q => by first | omega | (have z := zif_f c53; omega) | (have z := zif_f c61; omega) | (have z := zif_f c69; omega) | (have z := zif_f c79; omega) | (have z := zif_f c87; omega))).symm, ⟨k, h, r, l, n, rfl, tE_h (fun _ _ => rfl), (by rw [if_neg (fun q => by first | omega | (have z := zif_f c53; omega) | (have z := zif_f c61; omega) | (have z := zif_f c69; omega) | (have z := zif_f c79; omega) | (have z := zif_f c87; omega))]; exact hR)⟩⟩
          · refine s_ldI5 ok rfl ?_
            refine s_ldI6 ok rfl ?_
            refine s_c_lt ok rfl ⟨by omega, by omega⟩ ⟨by omega, by omega⟩ (fun c94 => ?_) (fun c94 => ?_)
            · have y0 := zif_t c53
              have y1 := zif_t c61
              have y4 := zif_t c69
              have y2 := zif_t c79
              have y3 := zif_t c87
              refine s_ldA0 ok rfl ?_
              refine s_ldI3 ok rfl ?_
              refine s_ldI4 ok rfl ?_
              refine s_callSg ok rfl rfl rfl rfl (ct_ofKind hn (by omega) (by omega) (by omega) (by omega)) (by omega) (by omega) (fun σ9 hσ9 => ?_)
              obtain ⟨k2, h2, r2, l2, rfl, gn, wv⟩ := hσ9
              have hR2 : cR 15 16 17 18 19 20 21 22 23 24 k2 h2 r2 (n + 1) p (-4) := cR_up hR (by rw [cnP_4]; exact p68) (fun b hb => (gn b (by omega)).1) (fun b hb => (gn b (by omega)).2.1) (gn 16 (by omega)).2.2.1 (by omega) (by omega) (by omega) (by omega) (by omega) (by omega) (by omega) (by omega) (by omega) (by omega)
              refine s_ldI5 ok rfl ?_
              refine s_ldI6 ok rfl ?_
              refine s_ldI7 ok rfl ?_
              refine s_callVg ok rfl rfl rfl rfl rfl rfl (ct_addPerson15 hR2 p60 p68 hS.1.2.1 wv (by omega)) (Nat.zero_le _) (Nat.zero_le _) (fun σ9 hσ9 => ?_)
              obtain ⟨g9, r9, rfl, f1, f2, f3⟩ := hσ9
              refine s_retZ ok rfl (by first | exact Or.inl rfl | exact Or.inr rfl | exact zif_iI) (by have tE9 : tE k h r l n k2 g9 r9 l2 (n + 1) := ⟨by omega, by omega, fun b hb => ⟨(gn b (by omega)).1, (gn b (by omega)).2.2.2, fun q => (f1 b q).trans (gn b (by omega)).2.1, fun q => (f2 b q).trans (gn b (by omega)).2.2.1⟩⟩; by_cases q8 : p 6 < 8; exact ⟨congrArg (fun z => some (Value.int (iI z))) ((if_pos q8).trans (if_pos (by omega)).symm), k2, g9, r9, l2, n + 1, rfl, tE9, (by rw [if_pos q8] at f3; rw [if_pos (by omega)]; exact pPn_cg f3)⟩; exact ⟨congrArg (fun z => some (Value.int (iI z))) ((if_neg q8).trans (if_neg (fun q => by omega)).symm), k2, g9, r9, l2, n + 1, rfl, tE9, (by rw [if_neg q8] at f3; rw [if_neg (fun q => by omega)]; exact f3)⟩)
            · refine s_ci ok rfl ?_
              refine s_retZ ok rfl (by first | exact Or.inl rfl | exact Or.inr rfl | exact zif_iI) ⟨congrArg (fun z => some (Value.int (iI z))) (if_neg (fun q => by first | omega | (have z := zif_f c53; omega) | (have z := zif_f c61; omega) | (have z := zif_f c69; omega) | (have z := zif_f c79; omega) | (have z := zif_f c87; omega))).symm, ⟨k, h, r, l, n, rfl, tE_h (fun _ _ => rfl), (by rw [if_neg (fun q => by first | omega | (have z := zif_f c53; omega) | (have z := zif_f c61; omega) | (have z := zif_f c69; omega) | (have z := zif_f c79; omega) | (have z := zif_f c87; omega))]; exact hR)⟩⟩
theorem tell_fin {k : Nat → Nat × Nat} {h : Nat → Int → Int} {r : Nat → Int → Option Nat} {l : Nat → Nat → Int64} {n : Nat} {p P9 : Int → Int} {c : Int} {N : Int → Int} (C : Prop) [Decidable C] (ev : dOk p c N = if C then 1 else 0) (ep : dPl p c N = P9) {k2 : Nat → Nat × Nat} {g : Nat → Int → Int} {r2 : Nat → Int → Option Nat} {l2 : Nat → Nat → Int64} {n2 : Nat} (t2 : tE k h r l n k2 g r2 l2 n2) (q2 : cR 15 16 17 18 19 20 21 22 23 24 k2 g r2 n2 (if C then P9 else p) (-4)) : zVx (.int (iI (dOk p c N))) (fun s => ∃ k2 g r2 l2 n2, s = zJ (k2, g, r2, l2, n2) ∧ tE k h r l n k2 g r2 l2 n2 ∧ cR 15 16 17 18 19 20 21 22 23 24 k2 g r2 n2 (if dOk p c N = 1 then dPl p c N else p) (-4)) (some (.int (iI (if C then 1 else 0)))) (zJ (k2, g, r2, l2, n2)) := by
  refine ⟨by rw [ev], k2, g, r2, l2, n2, rfl, t2, ?_⟩
  rw [ev, ep]
  by_cases q : C
  · rw [if_pos q, if_pos rfl]
    rw [if_pos q] at q2
    exact q2
  · rw [if_neg q, if_neg (by omega)]
    rw [if_neg q] at q2
    exact q2
theorem ct_tell {E : zE} {d : Nat} {k : Nat → Nat × Nat} {h : Nat → Int → Int} {r : Nat → Int → Option Nat} {l : Nat → Nat → Int64} {n : Nat} {p : Int → Int} (hR : cR 15 16 17 18 19 20 21 22 23 24 k h r n p (-4)) (hS : pS p) (hC : cS k h) (hn : 87 ≤ n) {w ar L : Nat} {so : Int} (hw : rw_ k h r w ar L so) {a : Int} (a0 : 0 ≤ a) (a1 : a ≤ 200) (hx : fB1 (tc (h ar) L) a = -1) (hy : -128 ≤ (tc (h ar) L) a ∧ (tc (h ar) L) a ≤ 127) : zCT E (d + 6) M_X3_tell [.ref 15, .ref w, .int (iI (a))] (zJ (k, h, r, l, n)) 1 2 (zVx (.int (iI (dOk p ((tc (h ar) L) a) (nN (tc (h ar) L) a)))) (fun s => ∃ k2 g r2 l2 n2, s = zJ (k2, g, r2, l2, n2) ∧ tE k h r l n k2 g r2 l2 n2 ∧ cR 15 16 17 18 19 20 21 22 23 24 k2 g r2 n2 (if dOk p ((tc (h ar) L) a) (nN (tc (h ar) L) a) = 1 then dPl p ((tc (h ar) L) a) (nN (tc (h ar) L) a) else p) (-4))) := by
  have ok := ok_X3_tell
  refine zCT_of pn_X3_tell (Nat.le_of_ble_eq_true rfl) ?_
  show zGo _ _ _ _ _ _ 0 ([some (.ref 15), some (.ref w), some (.int (iI (a)))], [], _, _, _)
  have hN := nN_R hx a0
  have kp : 0 < kN ((tc (h ar) L) a) := by unfold kN; (repeat split) <;> omega
  have hd0 : ¬ dgs ((tc (h ar) L) a) = 0 := by
    unfold fB1 at hx
    split at hx
    · omega
    · assumption
  have hno : ¬ (¬ (tc (h ar) L) a = 114 ∧ ¬ (tc (h ar) L) a = 116 ∧ ¬ (tc (h ar) L) a = 112 ∧ ¬ (tc (h ar) L) a = 108 ∧ ¬ (tc (h ar) L) a = 103 ∧ ¬ (tc (h ar) L) a = 115 ∧ ¬ (tc (h ar) L) a = 104 ∧ ¬ (tc (h ar) L) a = 120) := fun q => hd0 (by unfold dgs; (repeat (first | rw [if_neg (by omega)])))
  refine s_ldA1 ok rfl ?_
  refine s_ldI2 ok rfl ?_
  refine s_callV ok rfl rfl rfl rfl hw.1 rfl (ct_rat hw (by exact ⟨by omega, by omega⟩)) ?_
  refine s_sw ok rfl ?_
  refine zsw_c (by first | exact hb _ _ | exact ⟨by omega, by omega⟩) (by first | exact hb _ _ | exact ⟨by omega, by omega⟩) (fun c5 => ?_) (fun c5_103 => ?_)
  · have e0 : nm (tc (h ar) L) (a + 1) 2 = nN (tc (h ar) L) a 0 := by
      unfold nN
      rw [if_neg (by omega), if_neg (by omega), if_neg (by omega), if_pos (by omega)]
    have b0 := hN.1 0 (by omega) kp
    refine s_ldA0 ok rfl ?_
    refine s_ci ok rfl ?_
    refine s_ldA1 ok rfl ?_
    refine s_ldI2 ok rfl ?_
    refine s_ci ok rfl ?_
    refine s_add ok rfl ?_
    refine s_ci ok rfl ?_
    refine s_callV ok rfl rfl rfl rfl hw.1 rfl (ct_rnumber hw (a := a + 1) (dg := 2) (by omega) (by omega) (by omega)) ?_
    rw [e0]
    refine s_callVg ok rfl rfl rfl rfl rfl rfl (ct_tellRule hR hS hC (by exact ⟨by omega, by omega⟩) (by exact ⟨by omega, by omega⟩)) (by omega) (by omega) (fun σ9 hσ9 => ?_)
    obtain ⟨k2, g2, r2, l2, n2, rfl, t2, q2⟩ := hσ9
    refine s_retZ ok rfl (by first | exact Or.inl rfl | exact Or.inr rfl | exact zif_iI) (tell_fin (sRu 1 (nN (tc (h ar) L) a 0)) (by unfold dOk; (repeat (first | rw [if_pos (by omega)] | rw [if_neg (by omega)])); try (first | rfl | exact (if_pos (by unfold sRu; omega)).symm | (by_cases cc : sRu 1 (nN (tc (h ar) L) a 0); (first | rw [if_pos cc, if_pos (by unfold sRu at cc; omega)] | rw [if_pos cc, if_pos (by omega)] | rw [if_pos (by unfold sRu at cc; omega), if_pos cc] | rw [if_pos (by omega), if_pos cc] | (rw [if_pos cc])); (first | rw [if_neg cc, if_neg (by unfold sRu at cc; omega)] | rw [if_neg cc, if_neg (by omega)] | rw [if_neg (by unfold sRu at cc; omega), if_neg cc] | (exfalso; unfold sRu at cc; omega))))) (by unfold dPl; (repeat (first | rw [if_pos (by omega)] | rw [if_neg (by omega)])); try rfl) t2 q2)
  refine zsw_c (by first | exact hb _ _ | exact ⟨by omega, by omega⟩) (by first | exact hb _ _ | exact ⟨by omega, by omega⟩) (fun c5 => ?_) (fun c5_104 => ?_)
  · have e0 : nm (tc (h ar) L) (a + 1) 1 = nN (tc (h ar) L) a 0 := by
      unfold nN
      rw [if_neg (by omega), if_neg (by omega), if_neg (by omega), if_neg (by omega)]
    have b0 := hN.1 0 (by omega) kp
    have b9 := hN.2.2 (by omega)
    refine s_ldA0 ok rfl ?_
    refine s_ci ok rfl ?_
    refine s_ldA1 ok rfl ?_
    refine s_ldI2 ok rfl ?_
    refine s_ci ok rfl ?_
    refine s_add ok rfl ?_
    refine s_ci ok rfl ?_
    refine s_callV ok rfl rfl rfl rfl hw.1 rfl (ct_rnumber hw (a := a + 1) (dg := 1) (by omega) (by omega) (by omega)) ?_
    rw [e0]
    refine s_callVg ok rfl rfl rfl rfl rfl rfl (ct_tellRule hR hS hC (by exact ⟨by omega, by omega⟩) (by exact ⟨by omega, by omega⟩)) (by omega) (by omega) (fun σ9 hσ9 => ?_)
    obtain ⟨k2, g2, r2, l2, n2, rfl, t2, q2⟩ := hσ9
    refine s_retZ ok rfl (by first | exact Or.inl rfl | exact Or.inr rfl | exact zif_iI) (tell_fin (sRu 3 (nN (tc (h ar) L) a 0)) (by unfold dOk; (repeat (first | rw [if_pos (by omega)] | rw [if_neg (by omega)])); try (first | rfl | exact (if_pos (by unfold sRu; omega)).symm | (by_cases cc : sRu 3 (nN (tc (h ar) L) a 0); (first | rw [if_pos cc, if_pos (by unfold sRu at cc; omega)] | rw [if_pos cc, if_pos (by omega)] | rw [if_pos (by unfold sRu at cc; omega), if_pos cc] | rw [if_pos (by omega), if_pos cc] | (rw [if_pos cc])); (first | rw [if_neg cc, if_neg (by unfold sRu at cc; omega)] | rw [if_neg cc, if_neg (by omega)] | rw [if_neg (by unfold sRu at cc; omega), if_neg cc] | (exfalso; unfold sRu at cc; omega))))) (by unfold dPl; (repeat (first | rw [if_pos (by omega)] | rw [if_neg (by omega)])); try rfl) t2 q2)
  refine zsw_c (by first | exact hb _ _ | exact ⟨by omega, by omega⟩) (by first | exact hb _ _ | exact ⟨by omega, by omega⟩) (fun c5 => ?_) (fun c5_105 => ?_)
  · refine s_ci ok rfl ?_
    refine s_retZ ok rfl (by first | exact Or.inl rfl | exact Or.inr rfl | exact zif_iI) (by exfalso; exact hno (by omega))
  refine zsw_c (by first | exact hb _ _ | exact ⟨by omega, by omega⟩) (by first | exact hb _ _ | exact ⟨by omega, by omega⟩) (fun c5 => ?_) (fun c5_106 => ?_)
  · refine s_ci ok rfl ?_
    refine s_retZ ok rfl (by first | exact Or.inl rfl | exact Or.inr rfl | exact zif_iI) (by exfalso; exact hno (by omega))
  refine zsw_c (by first | exact hb _ _ | exact ⟨by omega, by omega⟩) (by first | exact hb _ _ | exact ⟨by omega, by omega⟩) (fun c5 => ?_) (fun c5_107 => ?_)
  · refine s_ci ok rfl ?_
    refine s_retZ ok rfl (by first | exact Or.inl rfl | exact Or.inr rfl | exact zif_iI) (by exfalso; exact hno (by omega))
  refine zsw_c (by first | exact hb _ _ | exact ⟨by omega, by omega⟩) (by first | exact hb _ _ | exact ⟨by omega, by omega⟩) (fun c5 => ?_) (fun c5_108 => ?_)
  · have e0 : nm (tc (h ar) L) (a + 1) 2 = nN (tc (h ar) L) a 0 := by
      unfold nN
      rw [if_neg (by omega), if_neg (by omega), if_neg (by omega), if_pos (by omega)]
    have b0 := hN.1 0 (by omega) kp
    refine s_ldA0 ok rfl ?_
    refine s_ci ok rfl ?_
    refine s_ldA1 ok rfl ?_
    refine s_ldI2 ok rfl ?_
    refine s_ci ok rfl ?_
    refine s_add ok rfl ?_
    refine s_ci ok rfl ?_
    refine s_callV ok rfl rfl rfl rfl hw.1 rfl (ct_rnumber hw (a := a + 1) (dg := 2) (by omega) (by omega) (by omega)) ?_
    rw [e0]
    refine s_callVg ok rfl rfl rfl rfl rfl rfl (ct_tellRule hR hS hC (by exact ⟨by omega, by omega⟩) (by exact ⟨by omega, by omega⟩)) (by omega) (by omega) (fun σ9 hσ9 => ?_)
    obtain ⟨k2, g2, r2, l2, n2, rfl, t2, q2⟩ := hσ9
    refine s_retZ ok rfl (by first | exact Or.inl rfl | exact Or.inr rfl | exact zif_iI) (tell_fin (sRu 0 (nN (tc (h ar) L) a 0)) (by unfold dOk; (repeat (first | rw [if_pos (by omega)] | rw [if_neg (by omega)])); try (first | rfl | exact (if_pos (by unfold sRu; omega)).symm | (by_cases cc : sRu 0 (nN (tc (h ar) L) a 0); (first | rw [if_pos cc, if_pos (by unfold sRu at cc; omega)] | rw [if_pos cc, if_pos (by omega)] | rw [if_pos (by unfold sRu at cc; omega), if_pos cc] | rw [if_pos (by omega), if_pos cc] | (rw [if_pos cc])); (first | rw [if_neg cc, if_neg (by unfold sRu at cc; omega)] | rw [if_neg cc, if_neg (by omega)] | rw [if_neg (by unfold sRu at cc; omega), if_neg cc] | (exfalso; unfold sRu at cc; omega))))) (by unfold dPl; (repeat (first | rw [if_pos (by omega)] | rw [if_neg (by omega)])); try rfl) t2 q2)
  refine zsw_c (by first | exact hb _ _ | exact ⟨by omega, by omega⟩) (by first | exact hb _ _ | exact ⟨by omega, by omega⟩) (fun c5 => ?_) (fun c5_109 => ?_)
  · refine s_ci ok rfl ?_
    refine s_retZ ok rfl (by first | exact Or.inl rfl | exact Or.inr rfl | exact zif_iI) (by exfalso; exact hno (by omega))
  refine zsw_c (by first | exact hb _ _ | exact ⟨by omega, by omega⟩) (by first | exact hb _ _ | exact ⟨by omega, by omega⟩) (fun c5 => ?_) (fun c5_110 => ?_)
  · refine s_ci ok rfl ?_
    refine s_retZ ok rfl (by first | exact Or.inl rfl | exact Or.inr rfl | exact zif_iI) (by exfalso; exact hno (by omega))
  refine zsw_c (by first | exact hb _ _ | exact ⟨by omega, by omega⟩) (by first | exact hb _ _ | exact ⟨by omega, by omega⟩) (fun c5 => ?_) (fun c5_111 => ?_)
  · refine s_ci ok rfl ?_
    refine s_retZ ok rfl (by first | exact Or.inl rfl | exact Or.inr rfl | exact zif_iI) (by exfalso; exact hno (by omega))
  refine zsw_c (by first | exact hb _ _ | exact ⟨by omega, by omega⟩) (by first | exact hb _ _ | exact ⟨by omega, by omega⟩) (fun c5 => ?_) (fun c5_112 => ?_)
  · refine s_ldA0 ok rfl ?_
    refine s_ldA1 ok rfl ?_
    refine s_ldI2 ok rfl ?_
    refine s_callVg ok rfl rfl rfl rfl rfl rfl (ct_tellPerson hR hS hn hw a0 a1 c5 (by rw [← c5]; exact hN)) (by omega) (by omega) (fun σ9 hσ9 => ?_)
    obtain ⟨k2, g2, r2, l2, n2, rfl, t2, q2⟩ := hσ9
    refine s_retZ ok rfl (by first | exact Or.inl rfl | exact Or.inr rfl | exact zif_iI) (tell_fin ((nN (tc (h ar) L) a 0 < 8 ∧ (nN (tc (h ar) L) a 2 < nN (tc (h ar) L) a 3 ∧ nN (tc (h ar) L) a 3 < 5) ∧ nN (tc (h ar) L) a 4 ≤ 300 ∧ ¬ p 6 = 8)) (by unfold dOk; (repeat (first | rw [if_pos (by omega)] | rw [if_neg (by omega)])); try (first | rfl | exact (if_pos (by unfold sRu; omega)).symm | (by_cases cc : (nN (tc (h ar) L) a 0 < 8 ∧ (nN (tc (h ar) L) a 2 < nN (tc (h ar) L) a 3 ∧ nN (tc (h ar) L) a 3 < 5) ∧ nN (tc (h ar) L) a 4 ≤ 300 ∧ ¬ p 6 = 8); (first | rw [if_pos cc, if_pos (by unfold sRu at cc; omega)] | rw [if_pos cc, if_pos (by omega)] | rw [if_pos (by unfold sRu at cc; omega), if_pos cc] | rw [if_pos (by omega), if_pos cc] | (rw [if_pos cc])); (first | rw [if_neg cc, if_neg (by unfold sRu at cc; omega)] | rw [if_neg cc, if_neg (by omega)] | rw [if_neg (by unfold sRu at cc; omega), if_neg cc] | (exfalso; unfold sRu at cc; omega))))) (by unfold dPl; (repeat (first | rw [if_pos (by omega)] | rw [if_neg (by omega)])); try rfl) t2 q2)
  refine zsw_c (by first | exact hb _ _ | exact ⟨by omega, by omega⟩) (by first | exact hb _ _ | exact ⟨by omega, by omega⟩) (fun c5 => ?_) (fun c5_113 => ?_)
  · refine s_ci ok rfl ?_
    refine s_retZ ok rfl (by first | exact Or.inl rfl | exact Or.inr rfl | exact zif_iI) (by exfalso; exact hno (by omega))
  refine zsw_c (by first | exact hb _ _ | exact ⟨by omega, by omega⟩) (by first | exact hb _ _ | exact ⟨by omega, by omega⟩) (fun c5 => ?_) (fun c5_114 => ?_)
  · have e0 : nm (tc (h ar) L) (a + 1) 1 = nN (tc (h ar) L) a 0 := by
      unfold nN
      rw [if_pos c5, if_pos rfl]
    have e1 : nm (tc (h ar) L) (a + 2) 2 = nN (tc (h ar) L) a 1 := by
      unfold nN
      rw [if_pos c5, if_neg (by omega), show a + 1 + 1 = a + 2 by omega]
    have kq : kN ((tc (h ar) L) a) = 2 := by unfold kN; (repeat (first | rw [if_pos (by omega)] | rw [if_neg (by omega)]))
    have b0 := hN.1 0 (by omega) kp
    have b1 := hN.1 1 (by omega) (by omega)
    refine s_ldA0 ok rfl ?_
    refine s_ldA1 ok rfl ?_
    refine s_ldI2 ok rfl ?_
    refine s_ci ok rfl ?_
    refine s_add ok rfl ?_
    refine s_ci ok rfl ?_
    refine s_callV ok rfl rfl rfl rfl hw.1 rfl (ct_rnumber hw (a := a + 1) (dg := 1) (by omega) (by omega) (by omega)) ?_
    rw [e0]
    refine s_ldA1 ok rfl ?_
    refine s_ldI2 ok rfl ?_
    refine s_ci ok rfl ?_
    refine s_add ok rfl ?_
    refine s_ci ok rfl ?_
    refine s_callV ok rfl rfl rfl rfl hw.1 rfl (ct_rnumber hw (a := a + 2) (dg := 2) (by omega) (by omega) (by omega)) ?_
    rw [e1]
    refine s_callVg ok rfl rfl rfl rfl rfl rfl (ct_tellRun hR hS (by exact ⟨by omega, by omega⟩) (by exact ⟨by omega, by omega⟩)) (by omega) (by omega) (fun σ9 hσ9 => ?_)
    obtain ⟨k2, g2, r2, l2, n2, rfl, t2, q2⟩ := hσ9
    refine s_retZ ok rfl (by first | exact Or.inl rfl | exact Or.inr rfl | exact zif_iI) (tell_fin ((0 ≤ nN (tc (h ar) L) a 0 ∧ nN (tc (h ar) L) a 0 ≤ 3) ∧ (1 ≤ nN (tc (h ar) L) a 1 ∧ nN (tc (h ar) L) a 1 ≤ 60)) (by unfold dOk; (repeat (first | rw [if_pos (by omega)] | rw [if_neg (by omega)])); try (first | rfl | exact (if_pos (by unfold sRu; omega)).symm | (by_cases cc : (0 ≤ nN (tc (h ar) L) a 0 ∧ nN (tc (h ar) L) a 0 ≤ 3) ∧ (1 ≤ nN (tc (h ar) L) a 1 ∧ nN (tc (h ar) L) a 1 ≤ 60); (first | rw [if_pos cc, if_pos (by unfold sRu at cc; omega)] | rw [if_pos cc, if_pos (by omega)] | rw [if_pos (by unfold sRu at cc; omega), if_pos cc] | rw [if_pos (by omega), if_pos cc] | (rw [if_pos cc])); (first | rw [if_neg cc, if_neg (by unfold sRu at cc; omega)] | rw [if_neg cc, if_neg (by omega)] | rw [if_neg (by unfold sRu at cc; omega), if_neg cc] | (exfalso; unfold sRu at cc; omega))))) (by unfold dPl; (repeat (first | rw [if_pos (by omega)] | rw [if_neg (by omega)])); try rfl) t2 q2)
  refine zsw_c (by first | exact hb _ _ | exact ⟨by omega, by omega⟩) (by first | exact hb _ _ | exact ⟨by omega, by omega⟩) (fun c5 => ?_) (fun c5_115 => ?_)
  · have e0 : nm (tc (h ar) L) (a + 1) 1 = nN (tc (h ar) L) a 0 := by
      unfold nN
      rw [if_neg (by omega), if_neg (by omega), if_neg (by omega), if_neg (by omega)]
    have b0 := hN.1 0 (by omega) kp
    have b9 := hN.2.2 (by omega)
    refine s_ldA0 ok rfl ?_
    refine s_ci ok rfl ?_
    refine s_ldA1 ok rfl ?_
    refine s_ldI2 ok rfl ?_
    refine s_ci ok rfl ?_
    refine s_add ok rfl ?_
    refine s_ci ok rfl ?_
    refine s_callV ok rfl rfl rfl rfl hw.1 rfl (ct_rnumber hw (a := a + 1) (dg := 1) (by omega) (by omega) (by omega)) ?_
    rw [e0]
    refine s_callVg ok rfl rfl rfl rfl rfl rfl (ct_tellRule hR hS hC (by exact ⟨by omega, by omega⟩) (by exact ⟨by omega, by omega⟩)) (by omega) (by omega) (fun σ9 hσ9 => ?_)
    obtain ⟨k2, g2, r2, l2, n2, rfl, t2, q2⟩ := hσ9
    refine s_retZ ok rfl (by first | exact Or.inl rfl | exact Or.inr rfl | exact zif_iI) (tell_fin (sRu 2 (nN (tc (h ar) L) a 0)) (by unfold dOk; (repeat (first | rw [if_pos (by omega)] | rw [if_neg (by omega)])); try (first | rfl | exact (if_pos (by unfold sRu; omega)).symm | (by_cases cc : sRu 2 (nN (tc (h ar) L) a 0); (first | rw [if_pos cc, if_pos (by unfold sRu at cc; omega)] | rw [if_pos cc, if_pos (by omega)] | rw [if_pos (by unfold sRu at cc; omega), if_pos cc] | rw [if_pos (by omega), if_pos cc] | (rw [if_pos cc])); (first | rw [if_neg cc, if_neg (by unfold sRu at cc; omega)] | rw [if_neg cc, if_neg (by omega)] | rw [if_neg (by unfold sRu at cc; omega), if_neg cc] | (exfalso; unfold sRu at cc; omega))))) (by unfold dPl; (repeat (first | rw [if_pos (by omega)] | rw [if_neg (by omega)])); try rfl) t2 q2)
  refine zsw_c (by first | exact hb _ _ | exact ⟨by omega, by omega⟩) (by first | exact hb _ _ | exact ⟨by omega, by omega⟩) (fun c5 => ?_) (fun c5_116 => ?_)
  · have e0 : nm (tc (h ar) L) (a + 1) 3 = nN (tc (h ar) L) a 0 := by
      unfold nN
      rw [if_neg (by omega), if_pos c5, if_pos rfl]
    have e1 : nm (tc (h ar) L) (a + 4) 1 = nN (tc (h ar) L) a 1 := by
      unfold nN
      rw [if_neg (by omega), if_pos c5, if_neg (by omega), show a + 1 + 3 = a + 4 by omega]
    have kq : kN ((tc (h ar) L) a) = 2 := by unfold kN; (repeat (first | rw [if_pos (by omega)] | rw [if_neg (by omega)]))
    have b0 := hN.1 0 (by omega) kp
    have b9 := hN.2.1 (Or.inl c5)
    have p4 := hS.1.2.1
    have b1 := hN.1 1 (by omega) (by omega)
    refine s_ldA0 ok rfl ?_
    refine s_ldA1 ok rfl ?_
    refine s_ldI2 ok rfl ?_
    refine s_ci ok rfl ?_
    refine s_add ok rfl ?_
    refine s_ci ok rfl ?_
    refine s_callV ok rfl rfl rfl rfl hw.1 rfl (ct_rnumber hw (a := a + 1) (dg := 3) (by omega) (by omega) (by omega)) ?_
    rw [e0]
    refine s_ldA1 ok rfl ?_
    refine s_ldI2 ok rfl ?_
    refine s_ci ok rfl ?_
    refine s_add ok rfl ?_
    refine s_ci ok rfl ?_
    refine s_callV ok rfl rfl rfl rfl hw.1 rfl (ct_rnumber hw (a := a + 4) (dg := 1) (by omega) (by omega) (by omega)) ?_
    rw [e1]
    refine s_callVg ok rfl rfl rfl rfl rfl rfl (ct_tellTrain hR hS (by exact ⟨by omega, by omega⟩) (by exact ⟨by omega, by omega⟩)) (by omega) (by omega) (fun σ9 hσ9 => ?_)
    obtain ⟨k2, g2, r2, l2, n2, rfl, t2, q2⟩ := hσ9
    refine s_retZ ok rfl (by first | exact Or.inl rfl | exact Or.inr rfl | exact zif_iI) (tell_fin ((0 ≤ nN (tc (h ar) L) a 0 ∧ nN (tc (h ar) L) a 0 ≤ 300) ∧ (0 ≤ nN (tc (h ar) L) a 1 ∧ nN (tc (h ar) L) a 1 ≤ 9) ∧ p 0 < 4) (by unfold dOk; (repeat (first | rw [if_pos (by omega)] | rw [if_neg (by omega)])); try (first | rfl | exact (if_pos (by unfold sRu; omega)).symm | (by_cases cc : (0 ≤ nN (tc (h ar) L) a 0 ∧ nN (tc (h ar) L) a 0 ≤ 300) ∧ (0 ≤ nN (tc (h ar) L) a 1 ∧ nN (tc (h ar) L) a 1 ≤ 9) ∧ p 0 < 4; (first | rw [if_pos cc, if_pos (by unfold sRu at cc; omega)] | rw [if_pos cc, if_pos (by omega)] | rw [if_pos (by unfold sRu at cc; omega), if_pos cc] | rw [if_pos (by omega), if_pos cc] | (rw [if_pos cc])); (first | rw [if_neg cc, if_neg (by unfold sRu at cc; omega)] | rw [if_neg cc, if_neg (by omega)] | rw [if_neg (by unfold sRu at cc; omega), if_neg cc] | (exfalso; unfold sRu at cc; omega))))) (by unfold dPl; (repeat (first | rw [if_pos (by omega)] | rw [if_neg (by omega)])); try rfl) t2 q2)
  refine zsw_c (by first | exact hb _ _ | exact ⟨by omega, by omega⟩) (by first | exact hb _ _ | exact ⟨by omega, by omega⟩) (fun c5 => ?_) (fun c5_117 => ?_)
  · refine s_ci ok rfl ?_
    refine s_retZ ok rfl (by first | exact Or.inl rfl | exact Or.inr rfl | exact zif_iI) (by exfalso; exact hno (by omega))
  refine zsw_c (by first | exact hb _ _ | exact ⟨by omega, by omega⟩) (by first | exact hb _ _ | exact ⟨by omega, by omega⟩) (fun c5 => ?_) (fun c5_118 => ?_)
  · refine s_ci ok rfl ?_
    refine s_retZ ok rfl (by first | exact Or.inl rfl | exact Or.inr rfl | exact zif_iI) (by exfalso; exact hno (by omega))
  refine zsw_c (by first | exact hb _ _ | exact ⟨by omega, by omega⟩) (by first | exact hb _ _ | exact ⟨by omega, by omega⟩) (fun c5 => ?_) (fun c5_119 => ?_)
  · refine s_ci ok rfl ?_
    refine s_retZ ok rfl (by first | exact Or.inl rfl | exact Or.inr rfl | exact zif_iI) (by exfalso; exact hno (by omega))
  refine zsw_c (by first | exact hb _ _ | exact ⟨by omega, by omega⟩) (by first | exact hb _ _ | exact ⟨by omega, by omega⟩) (fun c5 => ?_) (fun c5_120 => ?_)
  · have e0 : nm (tc (h ar) L) (a + 1) 1 = nN (tc (h ar) L) a 0 := by
      unfold nN
      rw [if_neg (by omega), if_neg (by omega), if_neg (by omega), if_neg (by omega)]
    have b0 := hN.1 0 (by omega) kp
    refine s_ldA0 ok rfl ?_
    refine s_ldA1 ok rfl ?_
    refine s_ldI2 ok rfl ?_
    refine s_ci ok rfl ?_
    refine s_add ok rfl ?_
    refine s_ci ok rfl ?_
    refine s_callV ok rfl rfl rfl rfl hw.1 rfl (ct_rnumber hw (a := a + 1) (dg := 1) (by omega) (by omega) (by omega)) ?_
    rw [e0]
    refine s_callVg ok rfl rfl rfl rfl rfl rfl (ct_tellCancelled hR hS (by exact ⟨by omega, by omega⟩)) (by omega) (by omega) (fun σ9 hσ9 => ?_)
    obtain ⟨k2, g2, r2, l2, n2, rfl, t2, q2⟩ := hσ9
    refine s_retZ ok rfl (by first | exact Or.inl rfl | exact Or.inr rfl | exact zif_iI) (tell_fin (0 ≤ nN (tc (h ar) L) a 0 ∧ nN (tc (h ar) L) a 0 < p 0) (by unfold dOk; (repeat (first | rw [if_pos (by omega)] | rw [if_neg (by omega)])); try (first | rfl | exact (if_pos (by unfold sRu; omega)).symm | (by_cases cc : 0 ≤ nN (tc (h ar) L) a 0 ∧ nN (tc (h ar) L) a 0 < p 0; (first | rw [if_pos cc, if_pos (by unfold sRu at cc; omega)] | rw [if_pos cc, if_pos (by omega)] | rw [if_pos (by unfold sRu at cc; omega), if_pos cc] | rw [if_pos (by omega), if_pos cc] | (rw [if_pos cc])); (first | rw [if_neg cc, if_neg (by unfold sRu at cc; omega)] | rw [if_neg cc, if_neg (by omega)] | rw [if_neg (by unfold sRu at cc; omega), if_neg cc] | (exfalso; unfold sRu at cc; omega))))) (by unfold dPl; (repeat (first | rw [if_pos (by omega)] | rw [if_neg (by omega)])); try rfl) t2 q2)
  show zGo _ _ _ _ _ _ 210 _
  refine s_ci ok rfl ?_
  refine s_retZ ok rfl (by first | exact Or.inl rfl | exact Or.inr rfl | exact zif_iI) (by exfalso; exact hno (by omega))
