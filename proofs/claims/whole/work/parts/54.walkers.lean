/-! The kinds of travellers -/
/-- v is a traveller of the kind K with the figure F -/
def kC (K : Int) : Nat := if K = 1 then 5 else if K = 2 then 8 else if K = 3 then 1 else if K = 4 then 7 else if K = 5 then 6 else if K = 6 then 0 else if K = 7 then 2 else 10
def wk (k : Nat → Nat × Nat) (h : Nat → Int → Int) (v : Nat) (K F : Int) : Prop := zkF k v = (kC K, 2) ∧ (h v 0 = K ∧ h v 1 = F) ∧ (0 ≤ K ∧ K ≤ 7) ∧ (0 ≤ F ∧ F ≤ 9)
theorem wk_c {k : Nat → Nat × Nat} {h : Nat → Int → Int} {v : Nat} {K F : Int} (w : wk k h v K F) : zmem (kC K) [0, 1, 2, 5, 6, 7, 8, 10] = true ∧ Nat.blt (kC K) 16 = true := by
  obtain ⟨-, -, ⟨k0, k1⟩, -⟩ := w
  rcases (by omega : K = 0 ∨ K = 1 ∨ K = 2 ∨ K = 3 ∨ K = 4 ∨ K = 5 ∨ K = 6 ∨ K = 7) with e | e | e | e | e | e | e | e <;> (subst e; exact ⟨by decide, by decide⟩)
theorem ct_X10_comesAt {E : zE} {d : Nat} {k : Nat → Nat × Nat} {h : Nat → Int → Int} {r : Nat → Int → Option Nat} {l : Nat → Nat → Int64} {n : Nat} {v c : Nat} (hq : zkF k v = (c, 2)) (hm : zmem c [0, 1, 2, 5, 6, 7, 8, 10] = true) (hc : Nat.blt c 16 = true) {F : Int} (hF : h v 1 = F) (f0 : 0 ≤ F) (f1 : F ≤ 9) {b : Int} (b0 : 0 ≤ b) (b1 : b ≤ 100000) : zCT E d M_X10_comesAt [.ref v, .int (iI (b))] (zJ (k, h, r, l, n)) 0 0 (zV (.int (iI (b))) (zJ (k, h, r, l, n))) := by
  have ok := ok_X10_comesAt
  refine zCT_of pn_X10_comesAt (Nat.le_of_ble_eq_true rfl) ?_
  show zGo _ _ _ _ _ _ 0 ([some (.ref v), some (.int (iI (b)))], [], _, _, _)
  refine s_ldI1 ok rfl ?_
  refine s_retI ok rfl ⟨congrArg (fun z => some (Value.int (iI z))) (by first | rfl | omega | (simp only []; omega)), rfl⟩
theorem ct_X10_excuse {E : zE} {d : Nat} {k : Nat → Nat × Nat} {h : Nat → Int → Int} {r : Nat → Int → Option Nat} {l : Nat → Nat → Int64} {n : Nat} {v c : Nat} (hq : zkF k v = (c, 2)) (hm : zmem c [0, 1, 2, 5, 6, 7, 8, 10] = true) (hc : Nat.blt c 16 = true) {F : Int} (hF : h v 1 = F) (f0 : 0 ≤ F) (f1 : F ≤ 9) : zCT E d M_X10_excuse [.ref v] (zJ (k, h, r, l, n)) 0 0 (zV (.int (iI (0))) (zJ (k, h, r, l, n))) := by
  have ok := ok_X10_excuse
  refine zCT_of pn_X10_excuse (Nat.le_of_ble_eq_true rfl) ?_
  show zGo _ _ _ _ _ _ 0 ([some (.ref v)], [], _, _, _)
  refine s_ci ok rfl ?_
  refine s_retI ok rfl ⟨congrArg (fun z => some (Value.int (iI z))) (by first | rfl | omega | (simp only []; omega)), rfl⟩
theorem ct_X10_rank {E : zE} {d : Nat} {k : Nat → Nat × Nat} {h : Nat → Int → Int} {r : Nat → Int → Option Nat} {l : Nat → Nat → Int64} {n : Nat} {v c : Nat} (hq : zkF k v = (c, 2)) (hm : zmem c [0, 1, 2, 5, 6, 7, 8, 10] = true) (hc : Nat.blt c 16 = true) {F : Int} (hF : h v 1 = F) (f0 : 0 ≤ F) (f1 : F ≤ 9) : zCT E d M_X10_rank [.ref v] (zJ (k, h, r, l, n)) 0 0 (zV (.int (iI (2))) (zJ (k, h, r, l, n))) := by
  have ok := ok_X10_rank
  refine zCT_of pn_X10_rank (Nat.le_of_ble_eq_true rfl) ?_
  show zGo _ _ _ _ _ _ 0 ([some (.ref v)], [], _, _, _)
  refine s_ci ok rfl ?_
  refine s_retI ok rfl ⟨congrArg (fun z => some (Value.int (iI z))) (by first | rfl | omega | (simp only []; omega)), rfl⟩
theorem ct_X10_places {E : zE} {d : Nat} {k : Nat → Nat × Nat} {h : Nat → Int → Int} {r : Nat → Int → Option Nat} {l : Nat → Nat → Int64} {n : Nat} {v c : Nat} (hq : zkF k v = (c, 2)) (hm : zmem c [0, 1, 2, 5, 6, 7, 8, 10] = true) (hc : Nat.blt c 16 = true) {F : Int} (hF : h v 1 = F) (f0 : 0 ≤ F) (f1 : F ≤ 9) : zCT E d M_X10_places [.ref v] (zJ (k, h, r, l, n)) 0 0 (zV (.int (iI (1))) (zJ (k, h, r, l, n))) := by
  have ok := ok_X10_places
  refine zCT_of pn_X10_places (Nat.le_of_ble_eq_true rfl) ?_
  show zGo _ _ _ _ _ _ 0 ([some (.ref v)], [], _, _, _)
  refine s_ci ok rfl ?_
  refine s_retI ok rfl ⟨congrArg (fun z => some (Value.int (iI z))) (by first | rfl | omega | (simp only []; omega)), rfl⟩
theorem ct_X10_offAt {E : zE} {d : Nat} {k : Nat → Nat × Nat} {h : Nat → Int → Int} {r : Nat → Int → Option Nat} {l : Nat → Nat → Int64} {n : Nat} {v c : Nat} (hq : zkF k v = (c, 2)) (hm : zmem c [0, 1, 2, 5, 6, 7, 8, 10] = true) (hc : Nat.blt c 16 = true) {F : Int} (hF : h v 1 = F) (f0 : 0 ≤ F) (f1 : F ≤ 9) {b : Int} (b0 : 0 ≤ b) (b1 : b ≤ 100000) : zCT E d M_X10_offAt [.ref v, .int (iI (b))] (zJ (k, h, r, l, n)) 0 0 (zV (.int (iI (b))) (zJ (k, h, r, l, n))) := by
  have ok := ok_X10_offAt
  refine zCT_of pn_X10_offAt (Nat.le_of_ble_eq_true rfl) ?_
  show zGo _ _ _ _ _ _ 0 ([some (.ref v), some (.int (iI (b)))], [], _, _, _)
  refine s_ldI1 ok rfl ?_
  refine s_retI ok rfl ⟨congrArg (fun z => some (Value.int (iI z))) (by first | rfl | omega | (simp only []; omega)), rfl⟩
theorem ct_X10_refundFor {E : zE} {d : Nat} {k : Nat → Nat × Nat} {h : Nat → Int → Int} {r : Nat → Int → Option Nat} {l : Nat → Nat → Int64} {n : Nat} {v c : Nat} (hq : zkF k v = (c, 2)) (hm : zmem c [0, 1, 2, 5, 6, 7, 8, 10] = true) (hc : Nat.blt c 16 = true) {F : Int} (hF : h v 1 = F) (f0 : 0 ≤ F) (f1 : F ≤ 9) {b : Int} (b0 : 0 ≤ b) (b1 : b ≤ 100000) : zCT E d M_X10_refundFor [.ref v, .int (iI (b))] (zJ (k, h, r, l, n)) 0 0 (zV (.int (iI (2 * b))) (zJ (k, h, r, l, n))) := by
  have ok := ok_X10_refundFor
  refine zCT_of pn_X10_refundFor (Nat.le_of_ble_eq_true rfl) ?_
  show zGo _ _ _ _ _ _ 0 ([some (.ref v), some (.int (iI (b)))], [], _, _, _)
  refine s_ci ok rfl ?_
  refine s_ldI1 ok rfl ?_
  refine s_mul ok rfl ?_
  refine s_retI ok rfl ⟨congrArg (fun z => some (Value.int (iI z))) (by first | rfl | omega | (simp only []; omega)), rfl⟩
theorem ct_X10_price {E : zE} {d : Nat} {k : Nat → Nat × Nat} {h : Nat → Int → Int} {r : Nat → Int → Option Nat} {l : Nat → Nat → Int64} {n : Nat} {v c : Nat} (hq : zkF k v = (c, 2)) (hm : zmem c [0, 1, 2, 5, 6, 7, 8, 10] = true) (hc : Nat.blt c 16 = true) {F : Int} (hF : h v 1 = F) (f0 : 0 ≤ F) (f1 : F ≤ 9) : zCT E d M_X10_price [.ref v] (zJ (k, h, r, l, n)) 0 0 (zV (.int (iI (5))) (zJ (k, h, r, l, n))) := by
  have ok := ok_X10_price
  refine zCT_of pn_X10_price (Nat.le_of_ble_eq_true rfl) ?_
  show zGo _ _ _ _ _ _ 0 ([some (.ref v)], [], _, _, _)
  refine s_ci ok rfl ?_
  refine s_retI ok rfl ⟨congrArg (fun z => some (Value.int (iI z))) (by first | rfl | omega | (simp only []; omega)), rfl⟩
theorem ct_X10_boards {E : zE} {d : Nat} {k : Nat → Nat × Nat} {h : Nat → Int → Int} {r : Nat → Int → Option Nat} {l : Nat → Nat → Int64} {n : Nat} {v c : Nat} (hq : zkF k v = (c, 2)) (hm : zmem c [0, 1, 2, 5, 6, 7, 8, 10] = true) (hc : Nat.blt c 16 = true) {F : Int} (hF : h v 1 = F) (f0 : 0 ≤ F) (f1 : F ≤ 9) {b : Int} (b0 : 0 ≤ b) (b1 : b ≤ 100000) : zCT E d M_X10_boards [.ref v, .int (iI (b))] (zJ (k, h, r, l, n)) 0 0 (zV (.int (iI (1))) (zJ (k, h, r, l, n))) := by
  have ok := ok_X10_boards
  refine zCT_of pn_X10_boards (Nat.le_of_ble_eq_true rfl) ?_
  show zGo _ _ _ _ _ _ 0 ([some (.ref v), some (.int (iI (b)))], [], _, _, _)
  refine s_ci ok rfl ?_
  refine s_retZ ok rfl (by first | exact Or.inl rfl | exact Or.inr rfl) ⟨rfl, rfl⟩
theorem ct_X5_comesAt {E : zE} {d : Nat} {k : Nat → Nat × Nat} {h : Nat → Int → Int} {r : Nat → Int → Option Nat} {l : Nat → Nat → Int64} {n : Nat} {v c : Nat} (hq : zkF k v = (c, 2)) (hm : zmem c [0, 1, 2, 5, 6, 7, 8, 10] = true) (hc : Nat.blt c 16 = true) {F : Int} (hF : h v 1 = F) (f0 : 0 ≤ F) (f1 : F ≤ 9) {b : Int} (b0 : 0 ≤ b) (b1 : b ≤ 100000) : zCT E (d + 2) M_X5_comesAt [.ref v, .int (iI (b))] (zJ (k, h, r, l, n)) 0 0 (zV (.int (iI (max 0 (b - F)))) (zJ (k, h, r, l, n))) := by
  have ok := ok_X5_comesAt
  refine zCT_of pn_X5_comesAt (Nat.le_of_ble_eq_true rfl) ?_
  show zGo _ _ _ _ _ _ 0 ([some (.ref v), some (.int (iI (b)))], [], _, _, _)
  refine s_ci ok rfl ?_
  refine s_ldA0 ok rfl ?_
  refine s_ldI1 ok rfl ?_
  refine s_callU ok rfl rfl rfl rfl hq hc (ct_X10_comesAt hq hm hc hF f0 f1 b0 b1) ?_
  refine s_ldA0 ok rfl ?_
  refine s_getJ 1 ok rfl hq hm rfl ?_
  rw [hF]
  refine s_sub ok rfl ?_
  refine s_max ok rfl rfl rfl (by first | exact hb _ _ | exact ⟨by omega, by omega⟩) (by first | exact hb _ _ | exact ⟨by omega, by omega⟩) ?_
  refine s_retI ok rfl ⟨congrArg (fun z => some (Value.int (iI z))) (by first | rfl | omega | (simp only []; omega)), rfl⟩
theorem ct_X5_excuse {E : zE} {d : Nat} {k : Nat → Nat × Nat} {h : Nat → Int → Int} {r : Nat → Int → Option Nat} {l : Nat → Nat → Int64} {n : Nat} {v c : Nat} (hq : zkF k v = (c, 2)) (hm : zmem c [0, 1, 2, 5, 6, 7, 8, 10] = true) (hc : Nat.blt c 16 = true) {F : Int} (hF : h v 1 = F) (f0 : 0 ≤ F) (f1 : F ≤ 9) : zCT E (d + 1) M_X5_excuse [.ref v] (zJ (k, h, r, l, n)) 0 0 (zV (.int (iI (1))) (zJ (k, h, r, l, n))) := by
  have ok := ok_X5_excuse
  refine zCT_of pn_X5_excuse (Nat.le_of_ble_eq_true rfl) ?_
  show zGo _ _ _ _ _ _ 0 ([some (.ref v)], [], _, _, _)
  refine s_ldA0 ok rfl ?_
  refine s_callU ok rfl rfl rfl rfl hq hc (ct_X10_excuse hq hm hc hF f0 f1) ?_
  refine s_ci ok rfl ?_
  refine s_add ok rfl ?_
  refine s_retI ok rfl ⟨congrArg (fun z => some (Value.int (iI z))) (by first | rfl | omega | (simp only []; omega)), rfl⟩
theorem ct_X5_rank {E : zE} {d : Nat} {k : Nat → Nat × Nat} {h : Nat → Int → Int} {r : Nat → Int → Option Nat} {l : Nat → Nat → Int64} {n : Nat} {v c : Nat} (hq : zkF k v = (c, 2)) (hm : zmem c [0, 1, 2, 5, 6, 7, 8, 10] = true) (hc : Nat.blt c 16 = true) {F : Int} (hF : h v 1 = F) (f0 : 0 ≤ F) (f1 : F ≤ 9) : zCT E (d + 1) M_X5_rank [.ref v] (zJ (k, h, r, l, n)) 0 0 (zV (.int (iI (1))) (zJ (k, h, r, l, n))) := by
  have ok := ok_X5_rank
  refine zCT_of pn_X5_rank (Nat.le_of_ble_eq_true rfl) ?_
  show zGo _ _ _ _ _ _ 0 ([some (.ref v)], [], _, _, _)
  refine s_ldA0 ok rfl ?_
  refine s_callU ok rfl rfl rfl rfl hq hc (ct_X10_rank hq hm hc hF f0 f1) ?_
  refine s_ci ok rfl ?_
  refine s_sub ok rfl ?_
  refine s_retI ok rfl ⟨congrArg (fun z => some (Value.int (iI z))) (by first | rfl | omega | (simp only []; omega)), rfl⟩
theorem ct_X5_price {E : zE} {d : Nat} {k : Nat → Nat × Nat} {h : Nat → Int → Int} {r : Nat → Int → Option Nat} {l : Nat → Nat → Int64} {n : Nat} {v c : Nat} (hq : zkF k v = (c, 2)) (hm : zmem c [0, 1, 2, 5, 6, 7, 8, 10] = true) (hc : Nat.blt c 16 = true) {F : Int} (hF : h v 1 = F) (f0 : 0 ≤ F) (f1 : F ≤ 9) : zCT E (d + 1) M_X5_price [.ref v] (zJ (k, h, r, l, n)) 0 0 (zV (.int (iI (8))) (zJ (k, h, r, l, n))) := by
  have ok := ok_X5_price
  refine zCT_of pn_X5_price (Nat.le_of_ble_eq_true rfl) ?_
  show zGo _ _ _ _ _ _ 0 ([some (.ref v)], [], _, _, _)
  refine s_ldA0 ok rfl ?_
  refine s_callU ok rfl rfl rfl rfl hq hc (ct_X10_price hq hm hc hF f0 f1) ?_
  refine s_ci ok rfl ?_
  refine s_add ok rfl ?_
  refine s_retI ok rfl ⟨congrArg (fun z => some (Value.int (iI z))) (by first | rfl | omega | (simp only []; omega)), rfl⟩
theorem ct_X8_comesAt {E : zE} {d : Nat} {k : Nat → Nat × Nat} {h : Nat → Int → Int} {r : Nat → Int → Option Nat} {l : Nat → Nat → Int64} {n : Nat} {v c : Nat} (hq : zkF k v = (c, 2)) (hm : zmem c [0, 1, 2, 5, 6, 7, 8, 10] = true) (hc : Nat.blt c 16 = true) {F : Int} (hF : h v 1 = F) (f0 : 0 ≤ F) (f1 : F ≤ 9) {b : Int} (b0 : 0 ≤ b) (b1 : b ≤ 100000) : zCT E (d + 1) M_X8_comesAt [.ref v, .int (iI (b))] (zJ (k, h, r, l, n)) 0 0 (zV (.int (iI (b + F))) (zJ (k, h, r, l, n))) := by
  have ok := ok_X8_comesAt
  refine zCT_of pn_X8_comesAt (Nat.le_of_ble_eq_true rfl) ?_
  show zGo _ _ _ _ _ _ 0 ([some (.ref v), some (.int (iI (b)))], [], _, _, _)
  refine s_ldA0 ok rfl ?_
  refine s_ldI1 ok rfl ?_
  refine s_callU ok rfl rfl rfl rfl hq hc (ct_X10_comesAt hq hm hc hF f0 f1 b0 b1) ?_
  refine s_ldA0 ok rfl ?_
  refine s_getJ 1 ok rfl hq hm rfl ?_
  rw [hF]
  refine s_add ok rfl ?_
  refine s_retI ok rfl ⟨congrArg (fun z => some (Value.int (iI z))) (by first | rfl | omega | (simp only []; omega)), rfl⟩
theorem ct_X8_excuse {E : zE} {d : Nat} {k : Nat → Nat × Nat} {h : Nat → Int → Int} {r : Nat → Int → Option Nat} {l : Nat → Nat → Int64} {n : Nat} {v c : Nat} (hq : zkF k v = (c, 2)) (hm : zmem c [0, 1, 2, 5, 6, 7, 8, 10] = true) (hc : Nat.blt c 16 = true) {F : Int} (hF : h v 1 = F) (f0 : 0 ≤ F) (f1 : F ≤ 9) : zCT E (d + 1) M_X8_excuse [.ref v] (zJ (k, h, r, l, n)) 0 0 (zV (.int (iI (F))) (zJ (k, h, r, l, n))) := by
  have ok := ok_X8_excuse
  refine zCT_of pn_X8_excuse (Nat.le_of_ble_eq_true rfl) ?_
  show zGo _ _ _ _ _ _ 0 ([some (.ref v)], [], _, _, _)
  refine s_ldA0 ok rfl ?_
  refine s_callU ok rfl rfl rfl rfl hq hc (ct_X10_excuse hq hm hc hF f0 f1) ?_
  refine s_ldA0 ok rfl ?_
  refine s_getJ 1 ok rfl hq hm rfl ?_
  rw [hF]
  refine s_add ok rfl ?_
  refine s_retI ok rfl ⟨congrArg (fun z => some (Value.int (iI z))) (by first | rfl | omega | (simp only []; omega)), rfl⟩
theorem ct_X8_refundFor {E : zE} {d : Nat} {k : Nat → Nat × Nat} {h : Nat → Int → Int} {r : Nat → Int → Option Nat} {l : Nat → Nat → Int64} {n : Nat} {v c : Nat} (hq : zkF k v = (c, 2)) (hm : zmem c [0, 1, 2, 5, 6, 7, 8, 10] = true) (hc : Nat.blt c 16 = true) {F : Int} (hF : h v 1 = F) (f0 : 0 ≤ F) (f1 : F ≤ 9) {b : Int} (b0 : 0 ≤ b) (b1 : b ≤ 100000) : zCT E (d + 2) M_X8_refundFor [.ref v, .int (iI (b))] (zJ (k, h, r, l, n)) 0 0 (zV (.int (iI (max 0 (2 * b - 1)))) (zJ (k, h, r, l, n))) := by
  have ok := ok_X8_refundFor
  refine zCT_of pn_X8_refundFor (Nat.le_of_ble_eq_true rfl) ?_
  show zGo _ _ _ _ _ _ 0 ([some (.ref v), some (.int (iI (b)))], [], _, _, _)
  refine s_ci ok rfl ?_
  refine s_ldA0 ok rfl ?_
  refine s_ldI1 ok rfl ?_
  refine s_callU ok rfl rfl rfl rfl hq hc (ct_X10_refundFor hq hm hc hF f0 f1 b0 b1) ?_
  refine s_ci ok rfl ?_
  refine s_sub ok rfl ?_
  refine s_max ok rfl rfl rfl (by first | exact hb _ _ | exact ⟨by omega, by omega⟩) (by first | exact hb _ _ | exact ⟨by omega, by omega⟩) ?_
  refine s_retI ok rfl ⟨congrArg (fun z => some (Value.int (iI z))) (by first | rfl | omega | (simp only []; omega)), rfl⟩
theorem ct_X1_comesAt {E : zE} {d : Nat} {k : Nat → Nat × Nat} {h : Nat → Int → Int} {r : Nat → Int → Option Nat} {l : Nat → Nat → Int64} {n : Nat} {v c : Nat} (hq : zkF k v = (c, 2)) (hm : zmem c [0, 1, 2, 5, 6, 7, 8, 10] = true) (hc : Nat.blt c 16 = true) {F : Int} (hF : h v 1 = F) (f0 : 0 ≤ F) (f1 : F ≤ 9) {b : Int} (b0 : 0 ≤ b) (b1 : b ≤ 100000) : zCT E (d + 2) M_X1_comesAt [.ref v, .int (iI (b))] (zJ (k, h, r, l, n)) 0 0 (zV (.int (iI (b + F + 2))) (zJ (k, h, r, l, n))) := by
  have ok := ok_X1_comesAt
  refine zCT_of pn_X1_comesAt (Nat.le_of_ble_eq_true rfl) ?_
  show zGo _ _ _ _ _ _ 0 ([some (.ref v), some (.int (iI (b)))], [], _, _, _)
  refine s_ldA0 ok rfl ?_
  refine s_ldI1 ok rfl ?_
  refine s_callU ok rfl rfl rfl rfl hq hc (ct_X8_comesAt hq hm hc hF f0 f1 b0 b1) ?_
  refine s_ci ok rfl ?_
  refine s_add ok rfl ?_
  refine s_retI ok rfl ⟨congrArg (fun z => some (Value.int (iI z))) (by first | rfl | omega | (simp only []; omega)), rfl⟩
theorem ct_X1_excuse {E : zE} {d : Nat} {k : Nat → Nat × Nat} {h : Nat → Int → Int} {r : Nat → Int → Option Nat} {l : Nat → Nat → Int64} {n : Nat} {v c : Nat} (hq : zkF k v = (c, 2)) (hm : zmem c [0, 1, 2, 5, 6, 7, 8, 10] = true) (hc : Nat.blt c 16 = true) {F : Int} (hF : h v 1 = F) (f0 : 0 ≤ F) (f1 : F ≤ 9) : zCT E (d + 2) M_X1_excuse [.ref v] (zJ (k, h, r, l, n)) 0 0 (zV (.int (iI (F + 5))) (zJ (k, h, r, l, n))) := by
  have ok := ok_X1_excuse
  refine zCT_of pn_X1_excuse (Nat.le_of_ble_eq_true rfl) ?_
  show zGo _ _ _ _ _ _ 0 ([some (.ref v)], [], _, _, _)
  refine s_ldA0 ok rfl ?_
  refine s_callU ok rfl rfl rfl rfl hq hc (ct_X8_excuse hq hm hc hF f0 f1) ?_
  refine s_ci ok rfl ?_
  refine s_add ok rfl ?_
  refine s_retI ok rfl ⟨congrArg (fun z => some (Value.int (iI z))) (by first | rfl | omega | (simp only []; omega)), rfl⟩
theorem ct_X1_rank {E : zE} {d : Nat} {k : Nat → Nat × Nat} {h : Nat → Int → Int} {r : Nat → Int → Option Nat} {l : Nat → Nat → Int64} {n : Nat} {v c : Nat} (hq : zkF k v = (c, 2)) (hm : zmem c [0, 1, 2, 5, 6, 7, 8, 10] = true) (hc : Nat.blt c 16 = true) {F : Int} (hF : h v 1 = F) (f0 : 0 ≤ F) (f1 : F ≤ 9) : zCT E (d + 1) M_X1_rank [.ref v] (zJ (k, h, r, l, n)) 0 0 (zV (.int (iI (3))) (zJ (k, h, r, l, n))) := by
  have ok := ok_X1_rank
  refine zCT_of pn_X1_rank (Nat.le_of_ble_eq_true rfl) ?_
  show zGo _ _ _ _ _ _ 0 ([some (.ref v)], [], _, _, _)
  refine s_ldA0 ok rfl ?_
  refine s_callU ok rfl rfl rfl rfl hq hc (ct_X10_rank hq hm hc hF f0 f1) ?_
  refine s_ci ok rfl ?_
  refine s_add ok rfl ?_
  refine s_retI ok rfl ⟨congrArg (fun z => some (Value.int (iI z))) (by first | rfl | omega | (simp only []; omega)), rfl⟩
theorem ct_X7_comesAt {E : zE} {d : Nat} {k : Nat → Nat × Nat} {h : Nat → Int → Int} {r : Nat → Int → Option Nat} {l : Nat → Nat → Int64} {n : Nat} {v c : Nat} (hq : zkF k v = (c, 2)) (hm : zmem c [0, 1, 2, 5, 6, 7, 8, 10] = true) (hc : Nat.blt c 16 = true) {F : Int} (hF : h v 1 = F) (f0 : 0 ≤ F) (f1 : F ≤ 9) {b : Int} (b0 : 0 ≤ b) (b1 : b ≤ 100000) : zCT E (d + 3) M_X7_comesAt [.ref v, .int (iI (b))] (zJ (k, h, r, l, n)) 0 0 (zV (.int (iI (max 0 (max 0 (b - F) - 3)))) (zJ (k, h, r, l, n))) := by
  have ok := ok_X7_comesAt
  refine zCT_of pn_X7_comesAt (Nat.le_of_ble_eq_true rfl) ?_
  show zGo _ _ _ _ _ _ 0 ([some (.ref v), some (.int (iI (b)))], [], _, _, _)
  refine s_ci ok rfl ?_
  refine s_ldA0 ok rfl ?_
  refine s_ldI1 ok rfl ?_
  refine s_callU ok rfl rfl rfl rfl hq hc (ct_X5_comesAt hq hm hc hF f0 f1 b0 b1) ?_
  refine s_ci ok rfl ?_
  refine s_sub ok rfl ?_
  refine s_max ok rfl rfl rfl (by first | exact hb _ _ | exact ⟨by omega, by omega⟩) (by first | exact hb _ _ | exact ⟨by omega, by omega⟩) ?_
  refine s_retI ok rfl ⟨congrArg (fun z => some (Value.int (iI z))) (by first | rfl | omega | (simp only []; omega)), rfl⟩
theorem ct_X7_excuse {E : zE} {d : Nat} {k : Nat → Nat × Nat} {h : Nat → Int → Int} {r : Nat → Int → Option Nat} {l : Nat → Nat → Int64} {n : Nat} {v c : Nat} (hq : zkF k v = (c, 2)) (hm : zmem c [0, 1, 2, 5, 6, 7, 8, 10] = true) (hc : Nat.blt c 16 = true) {F : Int} (hF : h v 1 = F) (f0 : 0 ≤ F) (f1 : F ≤ 9) : zCT E (d + 2) M_X7_excuse [.ref v] (zJ (k, h, r, l, n)) 0 0 (zV (.int (iI (2))) (zJ (k, h, r, l, n))) := by
  have ok := ok_X7_excuse
  refine zCT_of pn_X7_excuse (Nat.le_of_ble_eq_true rfl) ?_
  show zGo _ _ _ _ _ _ 0 ([some (.ref v)], [], _, _, _)
  refine s_ci ok rfl ?_
  refine s_ldA0 ok rfl ?_
  refine s_callU ok rfl rfl rfl rfl hq hc (ct_X5_excuse hq hm hc hF f0 f1) ?_
  refine s_mul ok rfl ?_
  refine s_retI ok rfl ⟨congrArg (fun z => some (Value.int (iI z))) (by first | rfl | omega | (simp only []; omega)), rfl⟩
theorem ct_X7_rank {E : zE} {d : Nat} {k : Nat → Nat × Nat} {h : Nat → Int → Int} {r : Nat → Int → Option Nat} {l : Nat → Nat → Int64} {n : Nat} {v c : Nat} (hq : zkF k v = (c, 2)) (hm : zmem c [0, 1, 2, 5, 6, 7, 8, 10] = true) (hc : Nat.blt c 16 = true) {F : Int} (hF : h v 1 = F) (f0 : 0 ≤ F) (f1 : F ≤ 9) : zCT E (d + 2) M_X7_rank [.ref v] (zJ (k, h, r, l, n)) 0 0 (zV (.int (iI (0))) (zJ (k, h, r, l, n))) := by
  have ok := ok_X7_rank
  refine zCT_of pn_X7_rank (Nat.le_of_ble_eq_true rfl) ?_
  show zGo _ _ _ _ _ _ 0 ([some (.ref v)], [], _, _, _)
  refine s_ldA0 ok rfl ?_
  refine s_callU ok rfl rfl rfl rfl hq hc (ct_X5_rank hq hm hc hF f0 f1) ?_
  refine s_ci ok rfl ?_
  refine s_sub ok rfl ?_
  refine s_retI ok rfl ⟨congrArg (fun z => some (Value.int (iI z))) (by first | rfl | omega | (simp only []; omega)), rfl⟩
theorem ct_X7_price {E : zE} {d : Nat} {k : Nat → Nat × Nat} {h : Nat → Int → Int} {r : Nat → Int → Option Nat} {l : Nat → Nat → Int64} {n : Nat} {v c : Nat} (hq : zkF k v = (c, 2)) (hm : zmem c [0, 1, 2, 5, 6, 7, 8, 10] = true) (hc : Nat.blt c 16 = true) {F : Int} (hF : h v 1 = F) (f0 : 0 ≤ F) (f1 : F ≤ 9) : zCT E (d + 2) M_X7_price [.ref v] (zJ (k, h, r, l, n)) 0 0 (zV (.int (iI (0))) (zJ (k, h, r, l, n))) := by
  have ok := ok_X7_price
  refine zCT_of pn_X7_price (Nat.le_of_ble_eq_true rfl) ?_
  show zGo _ _ _ _ _ _ 0 ([some (.ref v)], [], _, _, _)
  refine s_ldA0 ok rfl ?_
  refine s_callU ok rfl rfl rfl rfl hq hc (ct_X5_price hq hm hc hF f0 f1) ?_
  refine s_ci ok rfl ?_
  refine s_sub ok rfl ?_
  refine s_retI ok rfl ⟨congrArg (fun z => some (Value.int (iI z))) (by first | rfl | omega | (simp only []; omega)), rfl⟩
theorem ct_X7_refundFor {E : zE} {d : Nat} {k : Nat → Nat × Nat} {h : Nat → Int → Int} {r : Nat → Int → Option Nat} {l : Nat → Nat → Int64} {n : Nat} {v c : Nat} (hq : zkF k v = (c, 2)) (hm : zmem c [0, 1, 2, 5, 6, 7, 8, 10] = true) (hc : Nat.blt c 16 = true) {F : Int} (hF : h v 1 = F) (f0 : 0 ≤ F) (f1 : F ≤ 9) {b : Int} (b0 : 0 ≤ b) (b1 : b ≤ 100000) : zCT E d M_X7_refundFor [.ref v, .int (iI (b))] (zJ (k, h, r, l, n)) 0 0 (zV (.int (iI (0))) (zJ (k, h, r, l, n))) := by
  have ok := ok_X7_refundFor
  refine zCT_of pn_X7_refundFor (Nat.le_of_ble_eq_true rfl) ?_
  show zGo _ _ _ _ _ _ 0 ([some (.ref v), some (.int (iI (b)))], [], _, _, _)
  refine s_ci ok rfl ?_
  refine s_retI ok rfl ⟨rfl, rfl⟩
theorem ct_X6_excuse {E : zE} {d : Nat} {k : Nat → Nat × Nat} {h : Nat → Int → Int} {r : Nat → Int → Option Nat} {l : Nat → Nat → Int64} {n : Nat} {v c : Nat} (hq : zkF k v = (c, 2)) (hm : zmem c [0, 1, 2, 5, 6, 7, 8, 10] = true) (hc : Nat.blt c 16 = true) {F : Int} (hF : h v 1 = F) (f0 : 0 ≤ F) (f1 : F ≤ 9) : zCT E (d + 1) M_X6_excuse [.ref v] (zJ (k, h, r, l, n)) 0 0 (zV (.int (iI (F / 2))) (zJ (k, h, r, l, n))) := by
  have ok := ok_X6_excuse
  refine zCT_of pn_X6_excuse (Nat.le_of_ble_eq_true rfl) ?_
  show zGo _ _ _ _ _ _ 0 ([some (.ref v)], [], _, _, _)
  refine s_ldA0 ok rfl ?_
  refine s_callU ok rfl rfl rfl rfl hq hc (ct_X10_excuse hq hm hc hF f0 f1) ?_
  refine s_ldA0 ok rfl ?_
  refine s_getJ 1 ok rfl hq hm rfl ?_
  rw [hF]
  refine s_ci ok rfl ?_
  refine s_div ok rfl (by first | exact hb _ _ | exact ⟨by omega, by omega⟩) (by first | exact hb _ _ | exact ⟨by omega, by omega⟩) (by omega) (by omega) ?_
  refine s_add ok rfl ?_
  refine s_retI ok rfl ⟨congrArg (fun z => some (Value.int (iI z))) (by first | rfl | omega | (simp only []; omega)), rfl⟩
theorem ct_X6_offAt {E : zE} {d : Nat} {k : Nat → Nat × Nat} {h : Nat → Int → Int} {r : Nat → Int → Option Nat} {l : Nat → Nat → Int64} {n : Nat} {v c : Nat} (hq : zkF k v = (c, 2)) (hm : zmem c [0, 1, 2, 5, 6, 7, 8, 10] = true) (hc : Nat.blt c 16 = true) {F : Int} (hF : h v 1 = F) (f0 : 0 ≤ F) (f1 : F ≤ 9) {b : Int} (b0 : 0 ≤ b) (b1 : b ≤ 100000) : zCT E (d + 2) M_X6_offAt [.ref v, .int (iI (b))] (zJ (k, h, r, l, n)) 0 0 (zV (.int (iI (min 4 (b + 1)))) (zJ (k, h, r, l, n))) := by
  have ok := ok_X6_offAt
  refine zCT_of pn_X6_offAt (Nat.le_of_ble_eq_true rfl) ?_
  show zGo _ _ _ _ _ _ 0 ([some (.ref v), some (.int (iI (b)))], [], _, _, _)
  refine s_ci ok rfl ?_
  refine s_ldA0 ok rfl ?_
  refine s_ldI1 ok rfl ?_
  refine s_callU ok rfl rfl rfl rfl hq hc (ct_X10_offAt hq hm hc hF f0 f1 b0 b1) ?_
  refine s_ci ok rfl ?_
  refine s_add ok rfl ?_
  refine s_min ok rfl rfl rfl (by first | exact hb _ _ | exact ⟨by omega, by omega⟩) (by first | exact hb _ _ | exact ⟨by omega, by omega⟩) ?_
  refine s_retI ok rfl ⟨congrArg (fun z => some (Value.int (iI z))) (by first | rfl | omega | (simp only []; omega)), rfl⟩
theorem ct_X6_price {E : zE} {d : Nat} {k : Nat → Nat × Nat} {h : Nat → Int → Int} {r : Nat → Int → Option Nat} {l : Nat → Nat → Int64} {n : Nat} {v c : Nat} (hq : zkF k v = (c, 2)) (hm : zmem c [0, 1, 2, 5, 6, 7, 8, 10] = true) (hc : Nat.blt c 16 = true) {F : Int} (hF : h v 1 = F) (f0 : 0 ≤ F) (f1 : F ≤ 9) : zCT E (d + 1) M_X6_price [.ref v] (zJ (k, h, r, l, n)) 0 0 (zV (.int (iI (6))) (zJ (k, h, r, l, n))) := by
  have ok := ok_X6_price
  refine zCT_of pn_X6_price (Nat.le_of_ble_eq_true rfl) ?_
  show zGo _ _ _ _ _ _ 0 ([some (.ref v)], [], _, _, _)
  refine s_ldA0 ok rfl ?_
  refine s_callU ok rfl rfl rfl rfl hq hc (ct_X10_price hq hm hc hF f0 f1) ?_
  refine s_ci ok rfl ?_
  refine s_add ok rfl ?_
  refine s_retI ok rfl ⟨congrArg (fun z => some (Value.int (iI z))) (by first | rfl | omega | (simp only []; omega)), rfl⟩
theorem ct_X0_excuse {E : zE} {d : Nat} {k : Nat → Nat × Nat} {h : Nat → Int → Int} {r : Nat → Int → Option Nat} {l : Nat → Nat → Int64} {n : Nat} {v c : Nat} (hq : zkF k v = (c, 2)) (hm : zmem c [0, 1, 2, 5, 6, 7, 8, 10] = true) (hc : Nat.blt c 16 = true) {F : Int} (hF : h v 1 = F) (f0 : 0 ≤ F) (f1 : F ≤ 9) : zCT E (d + 2) M_X0_excuse [.ref v] (zJ (k, h, r, l, n)) 0 0 (zV (.int (iI (max 0 (F - 1)))) (zJ (k, h, r, l, n))) := by
  have ok := ok_X0_excuse
  refine zCT_of pn_X0_excuse (Nat.le_of_ble_eq_true rfl) ?_
  show zGo _ _ _ _ _ _ 0 ([some (.ref v)], [], _, _, _)
  refine s_ci ok rfl ?_
  refine s_ldA0 ok rfl ?_
  refine s_callU ok rfl rfl rfl rfl hq hc (ct_X8_excuse hq hm hc hF f0 f1) ?_
  refine s_ci ok rfl ?_
  refine s_sub ok rfl ?_
  refine s_max ok rfl rfl rfl (by first | exact hb _ _ | exact ⟨by omega, by omega⟩) (by first | exact hb _ _ | exact ⟨by omega, by omega⟩) ?_
  refine s_retI ok rfl ⟨congrArg (fun z => some (Value.int (iI z))) (by first | rfl | omega | (simp only []; omega)), rfl⟩
theorem ct_X0_boards {E : zE} {d : Nat} {k : Nat → Nat × Nat} {h : Nat → Int → Int} {r : Nat → Int → Option Nat} {l : Nat → Nat → Int64} {n : Nat} {v c : Nat} (hq : zkF k v = (c, 2)) (hm : zmem c [0, 1, 2, 5, 6, 7, 8, 10] = true) (hc : Nat.blt c 16 = true) {F : Int} (hF : h v 1 = F) (f0 : 0 ≤ F) (f1 : F ≤ 9) {b : Int} (b0 : 0 ≤ b) (b1 : b ≤ 100000) : zCT E d M_X0_boards [.ref v, .int (iI (b))] (zJ (k, h, r, l, n)) 0 0 (zV (.int (iI (if b = F / 3 then 1 else 0))) (zJ (k, h, r, l, n))) := by
  have ok := ok_X0_boards
  refine zCT_of pn_X0_boards (Nat.le_of_ble_eq_true rfl) ?_
  show zGo _ _ _ _ _ _ 0 ([some (.ref v), some (.int (iI (b)))], [], _, _, _)
  refine s_ldI1 ok rfl ?_
  refine s_ldA0 ok rfl ?_
  refine s_getJ 1 ok rfl hq hm rfl ?_
  rw [hF]
  refine s_ci ok rfl ?_
  refine s_div ok rfl (by first | exact hb _ _ | exact ⟨by omega, by omega⟩) (by first | exact hb _ _ | exact ⟨by omega, by omega⟩) (by omega) (by omega) ?_
  refine s_c_eq ok rfl (by first | exact hb _ _ | exact ⟨by omega, by omega⟩) (by first | exact hb _ _ | exact ⟨by omega, by omega⟩) (fun c7 => ?_) (fun c7 => ?_)
  · refine s_ci ok rfl ?_
    refine s_goto ok rfl ?_
    refine s_retZ ok rfl (by first | exact Or.inl rfl | exact Or.inr rfl) ⟨congrArg (fun z => some (Value.int (iI z))) (by first | exact (if_pos (by omega)).symm | exact (if_neg (by omega)).symm), rfl⟩
  · refine s_ci ok rfl ?_
    refine s_retZ ok rfl (by first | exact Or.inl rfl | exact Or.inr rfl) ⟨congrArg (fun z => some (Value.int (iI z))) (by first | exact (if_pos (by omega)).symm | exact (if_neg (by omega)).symm), rfl⟩
theorem ct_X2_excuse {E : zE} {d : Nat} {k : Nat → Nat × Nat} {h : Nat → Int → Int} {r : Nat → Int → Option Nat} {l : Nat → Nat → Int64} {n : Nat} {v c : Nat} (hq : zkF k v = (c, 2)) (hm : zmem c [0, 1, 2, 5, 6, 7, 8, 10] = true) (hc : Nat.blt c 16 = true) {F : Int} (hF : h v 1 = F) (f0 : 0 ≤ F) (f1 : F ≤ 9) : zCT E (d + 1) M_X2_excuse [.ref v] (zJ (k, h, r, l, n)) 0 0 (zV (.int (iI (6))) (zJ (k, h, r, l, n))) := by
  have ok := ok_X2_excuse
  refine zCT_of pn_X2_excuse (Nat.le_of_ble_eq_true rfl) ?_
  show zGo _ _ _ _ _ _ 0 ([some (.ref v)], [], _, _, _)
  refine s_ldA0 ok rfl ?_
  refine s_callU ok rfl rfl rfl rfl hq hc (ct_X10_excuse hq hm hc hF f0 f1) ?_
  refine s_ci ok rfl ?_
  refine s_add ok rfl ?_
  refine s_retI ok rfl ⟨congrArg (fun z => some (Value.int (iI z))) (by first | rfl | omega | (simp only []; omega)), rfl⟩
theorem ct_X2_places {E : zE} {d : Nat} {k : Nat → Nat × Nat} {h : Nat → Int → Int} {r : Nat → Int → Option Nat} {l : Nat → Nat → Int64} {n : Nat} {v c : Nat} (hq : zkF k v = (c, 2)) (hm : zmem c [0, 1, 2, 5, 6, 7, 8, 10] = true) (hc : Nat.blt c 16 = true) {F : Int} (hF : h v 1 = F) (f0 : 0 ≤ F) (f1 : F ≤ 9) : zCT E d M_X2_places [.ref v] (zJ (k, h, r, l, n)) 0 0 (zV (.int (iI (2))) (zJ (k, h, r, l, n))) := by
  have ok := ok_X2_places
  refine zCT_of pn_X2_places (Nat.le_of_ble_eq_true rfl) ?_
  show zGo _ _ _ _ _ _ 0 ([some (.ref v)], [], _, _, _)
  refine s_ci ok rfl ?_
  refine s_retI ok rfl ⟨rfl, rfl⟩
theorem ct_X2_refundFor {E : zE} {d : Nat} {k : Nat → Nat × Nat} {h : Nat → Int → Int} {r : Nat → Int → Option Nat} {l : Nat → Nat → Int64} {n : Nat} {v c : Nat} (hq : zkF k v = (c, 2)) (hm : zmem c [0, 1, 2, 5, 6, 7, 8, 10] = true) (hc : Nat.blt c 16 = true) {F : Int} (hF : h v 1 = F) (f0 : 0 ≤ F) (f1 : F ≤ 9) {b : Int} (b0 : 0 ≤ b) (b1 : b ≤ 100000) : zCT E (d + 1) M_X2_refundFor [.ref v, .int (iI (b))] (zJ (k, h, r, l, n)) 0 0 (zV (.int (iI (4 * b))) (zJ (k, h, r, l, n))) := by
  have ok := ok_X2_refundFor
  refine zCT_of pn_X2_refundFor (Nat.le_of_ble_eq_true rfl) ?_
  show zGo _ _ _ _ _ _ 0 ([some (.ref v), some (.int (iI (b)))], [], _, _, _)
  refine s_ci ok rfl ?_
  refine s_ldA0 ok rfl ?_
  refine s_ldI1 ok rfl ?_
  refine s_callU ok rfl rfl rfl rfl hq hc (ct_X10_refundFor hq hm hc hF f0 f1 b0 b1) ?_
  refine s_mul ok rfl ?_
  refine s_retI ok rfl ⟨congrArg (fun z => some (Value.int (iI z))) (by first | rfl | omega | (simp only []; omega)), rfl⟩
theorem ct_X2_price {E : zE} {d : Nat} {k : Nat → Nat × Nat} {h : Nat → Int → Int} {r : Nat → Int → Option Nat} {l : Nat → Nat → Int64} {n : Nat} {v c : Nat} (hq : zkF k v = (c, 2)) (hm : zmem c [0, 1, 2, 5, 6, 7, 8, 10] = true) (hc : Nat.blt c 16 = true) {F : Int} (hF : h v 1 = F) (f0 : 0 ≤ F) (f1 : F ≤ 9) : zCT E (d + 1) M_X2_price [.ref v] (zJ (k, h, r, l, n)) 0 0 (zV (.int (iI (10))) (zJ (k, h, r, l, n))) := by
  have ok := ok_X2_price
  refine zCT_of pn_X2_price (Nat.le_of_ble_eq_true rfl) ?_
  show zGo _ _ _ _ _ _ 0 ([some (.ref v)], [], _, _, _)
  refine s_ci ok rfl ?_
  refine s_ldA0 ok rfl ?_
  refine s_callU ok rfl rfl rfl rfl hq hc (ct_X10_price hq hm hc hF f0 f1) ?_
  refine s_mul ok rfl ?_
  refine s_retI ok rfl ⟨congrArg (fun z => some (Value.int (iI z))) (by first | rfl | omega | (simp only []; omega)), rfl⟩
theorem ct_X8_price8 {E : zE} {d : Nat} {k : Nat → Nat × Nat} {h : Nat → Int → Int} {r : Nat → Int → Option Nat} {l : Nat → Nat → Int64} {n : Nat} {v : Nat} (hq : zkF k v = (8, 2)) {F : Int} (hF : h v 1 = F) (f0 : 0 ≤ F) (f1 : F ≤ 9) : zCT E (d + 3) M_X8_price [.ref v] (zJ (k, h, r, l, n)) 0 0 (zV (.int (iI (5 + (F)))) (zJ (k, h, r, l, n))) := by
  have ok := ok_X8_price
  refine zCT_of pn_X8_price (Nat.le_of_ble_eq_true rfl) ?_
  show zGo _ _ _ _ _ _ 0 ([some (.ref v)], [], _, _, _)
  refine s_ldA0 ok rfl ?_
  refine s_callU ok rfl rfl rfl rfl hq rfl (ct_X10_price hq rfl rfl hF f0 f1) ?_
  refine s_ldA0 ok rfl ?_
  refine s_callV ok rfl rfl rfl rfl hq rfl (ct_X8_excuse hq rfl rfl hF f0 f1) ?_
  refine s_add ok rfl ?_
  refine s_retI ok rfl ⟨congrArg (fun z => some (Value.int (iI z))) (by first | rfl | omega), rfl⟩
theorem ct_X8_price1 {E : zE} {d : Nat} {k : Nat → Nat × Nat} {h : Nat → Int → Int} {r : Nat → Int → Option Nat} {l : Nat → Nat → Int64} {n : Nat} {v : Nat} (hq : zkF k v = (1, 2)) {F : Int} (hF : h v 1 = F) (f0 : 0 ≤ F) (f1 : F ≤ 9) : zCT E (d + 3) M_X8_price [.ref v] (zJ (k, h, r, l, n)) 0 0 (zV (.int (iI (5 + (F + 5)))) (zJ (k, h, r, l, n))) := by
  have ok := ok_X8_price
  refine zCT_of pn_X8_price (Nat.le_of_ble_eq_true rfl) ?_
  show zGo _ _ _ _ _ _ 0 ([some (.ref v)], [], _, _, _)
  refine s_ldA0 ok rfl ?_
  refine s_callU ok rfl rfl rfl rfl hq rfl (ct_X10_price hq rfl rfl hF f0 f1) ?_
  refine s_ldA0 ok rfl ?_
  refine s_callV ok rfl rfl rfl rfl hq rfl (ct_X1_excuse hq rfl rfl hF f0 f1) ?_
  refine s_add ok rfl ?_
  refine s_retI ok rfl ⟨congrArg (fun z => some (Value.int (iI z))) (by first | rfl | omega), rfl⟩
theorem ct_X8_price0 {E : zE} {d : Nat} {k : Nat → Nat × Nat} {h : Nat → Int → Int} {r : Nat → Int → Option Nat} {l : Nat → Nat → Int64} {n : Nat} {v : Nat} (hq : zkF k v = (0, 2)) {F : Int} (hF : h v 1 = F) (f0 : 0 ≤ F) (f1 : F ≤ 9) : zCT E (d + 3) M_X8_price [.ref v] (zJ (k, h, r, l, n)) 0 0 (zV (.int (iI (5 + (max 0 (F - 1))))) (zJ (k, h, r, l, n))) := by
  have ok := ok_X8_price
  refine zCT_of pn_X8_price (Nat.le_of_ble_eq_true rfl) ?_
  show zGo _ _ _ _ _ _ 0 ([some (.ref v)], [], _, _, _)
  refine s_ldA0 ok rfl ?_
  refine s_callU ok rfl rfl rfl rfl hq rfl (ct_X10_price hq rfl rfl hF f0 f1) ?_
  refine s_ldA0 ok rfl ?_
  refine s_callV ok rfl rfl rfl rfl hq rfl (ct_X0_excuse hq rfl rfl hF f0 f1) ?_
  refine s_add ok rfl ?_
  refine s_retI ok rfl ⟨congrArg (fun z => some (Value.int (iI z))) (by first | rfl | omega), rfl⟩
theorem ct_X1_price {E : zE} {d : Nat} {k : Nat → Nat × Nat} {h : Nat → Int → Int} {r : Nat → Int → Option Nat} {l : Nat → Nat → Int64} {n : Nat} {v : Nat} (hq : zkF k v = (1, 2)) {F : Int} (hF : h v 1 = F) (f0 : 0 ≤ F) (f1 : F ≤ 9) : zCT E (d + 4) M_X1_price [.ref v] (zJ (k, h, r, l, n)) 0 0 (zV (.int (iI (2 * (5 + (F + 5))))) (zJ (k, h, r, l, n))) := by
  have ok := ok_X1_price
  refine zCT_of pn_X1_price (Nat.le_of_ble_eq_true rfl) ?_
  show zGo _ _ _ _ _ _ 0 ([some (.ref v)], [], _, _, _)
  refine s_ci ok rfl ?_
  refine s_ldA0 ok rfl ?_
  refine s_callU ok rfl rfl rfl rfl hq rfl (ct_X8_price1 hq hF f0 f1) ?_
  refine s_mul ok rfl ?_
  refine s_retI ok rfl ⟨congrArg (fun z => some (Value.int (iI z))) (by first | rfl | omega), rfl⟩
theorem ct_X0_price {E : zE} {d : Nat} {k : Nat → Nat × Nat} {h : Nat → Int → Int} {r : Nat → Int → Option Nat} {l : Nat → Nat → Int64} {n : Nat} {v : Nat} (hq : zkF k v = (0, 2)) {F : Int} (hF : h v 1 = F) (f0 : 0 ≤ F) (f1 : F ≤ 9) : zCT E (d + 4) M_X0_price [.ref v] (zJ (k, h, r, l, n)) 0 0 (zV (.int (iI (9 + max 0 (F - 1)))) (zJ (k, h, r, l, n))) := by
  have ok := ok_X0_price
  refine zCT_of pn_X0_price (Nat.le_of_ble_eq_true rfl) ?_
  show zGo _ _ _ _ _ _ 0 ([some (.ref v)], [], _, _, _)
  refine s_ldA0 ok rfl ?_
  refine s_callU ok rfl rfl rfl rfl hq rfl (ct_X8_price0 hq hF f0 f1) ?_
  refine s_ci ok rfl ?_
  refine s_add ok rfl ?_
  refine s_retI ok rfl ⟨congrArg (fun z => some (Value.int (iI z))) (by first | rfl | omega), rfl⟩
theorem zct_v {E : zE} {d : Nat} {M : zM} {vs : List Value} {σ τ : zS} {a b : Int} (e : b = a) (h : zCT E d M vs σ 0 0 (zV (.int (iI a)) τ)) : zCT E d M vs σ 0 0 (zV (.int (iI b)) τ) := by
  rw [e]
  exact h
section ZD
variable {E : zE} {d mc ms : Nat} {M : zM} {P : Nat → zOp} {Q : zQ} {pc nx bc bs : Nat} {ls : List (Option Value)} {st : List Value} {σ : zS}
theorem s_callD (ok : zOK M P) {e9 na x : Nat} {tgs : List (Nat × zM)} {v : Value} {σ' : zS} {as rest : List Value} (hd : d = e9 + 1) (hP : P pc = oCallV na tgs nx) (hp : zpop na [] st = some (as, .ref x :: rest)) (hc : Nat.ble (zcat rest) 8 = true) (hM : ∃ (c : Nat) (M9 : zM), zk σ x = (c, 2) ∧ zfind tgs c = some M9 ∧ zCT E e9 M9 (.ref x :: as) σ 0 0 (zV v σ')) (hk : zGo E d M mc ms Q nx (ls, v :: rest, σ', bc, bs)) : zGo E d M mc ms Q pc (ls, st, σ, bc, bs) := by
  obtain ⟨c, M9, hq, hf, hM⟩ := hM
  exact s_callV ok hd hP hp hc hq hf hM hk
end ZD
theorem vt_comesAt {E : zE} {d : Nat} {k : Nat → Nat × Nat} {h : Nat → Int → Int} {r : Nat → Int → Option Nat} {l : Nat → Nat → Int64} {n : Nat} {v : Nat} {K F : Int} (w : wk k h v K F) {b : Int} (b0 : 0 ≤ b) (b1 : b ≤ 100000) : ∃ (c : Nat) (M9 : zM), zkF k v = (c, 2) ∧ zfind [(10, M_X10_comesAt), (0, M_X8_comesAt), (1, M_X1_comesAt), (2, M_X10_comesAt), (5, M_X5_comesAt), (6, M_X10_comesAt), (7, M_X7_comesAt), (8, M_X8_comesAt)] c = some M9 ∧ zCT E (d + 3) M9 [.ref v, .int (iI (b))] (zJ (k, h, r, l, n)) 0 0 (zV (.int (iI (kCm K F b))) (zJ (k, h, r, l, n))) := by
  obtain ⟨hq, ⟨hK, hF⟩, ⟨k0, k1⟩, f0, f1⟩ := w
  rcases (by omega : K = 0 ∨ K = 1 ∨ K = 2 ∨ K = 3 ∨ K = 4 ∨ K = 5 ∨ K = 6 ∨ K = 7) with e | e | e | e | e | e | e | e
  · subst e
    refine ⟨10, M_X10_comesAt, hq, rfl, ?_⟩
    refine zct_v ?_ (ct_X10_comesAt hq rfl rfl hF f0 f1 b0 b1)
    first | rfl | (unfold kCm; (repeat (first | rw [if_pos (by omega)] | rw [if_neg (by omega)])); first | rfl | omega | skip)
  · subst e
    refine ⟨5, M_X5_comesAt, hq, rfl, ?_⟩
    refine zct_v ?_ (ct_X5_comesAt hq rfl rfl hF f0 f1 b0 b1)
    first | rfl | (unfold kCm; (repeat (first | rw [if_pos (by omega)] | rw [if_neg (by omega)])); first | rfl | omega | skip)
  · subst e
    refine ⟨8, M_X8_comesAt, hq, rfl, ?_⟩
    refine zct_v ?_ (ct_X8_comesAt hq rfl rfl hF f0 f1 b0 b1)
    first | rfl | (unfold kCm; (repeat (first | rw [if_pos (by omega)] | rw [if_neg (by omega)])); first | rfl | omega | skip)
  · subst e
    refine ⟨1, M_X1_comesAt, hq, rfl, ?_⟩
    refine zct_v ?_ (ct_X1_comesAt hq rfl rfl hF f0 f1 b0 b1)
    first | rfl | (unfold kCm; (repeat (first | rw [if_pos (by omega)] | rw [if_neg (by omega)])); first | rfl | omega | skip)
  · subst e
    refine ⟨7, M_X7_comesAt, hq, rfl, ?_⟩
    refine zct_v ?_ (ct_X7_comesAt hq rfl rfl hF f0 f1 b0 b1)
    first | rfl | (unfold kCm; (repeat (first | rw [if_pos (by omega)] | rw [if_neg (by omega)])); first | rfl | omega | skip)
  · subst e
    refine ⟨6, M_X10_comesAt, hq, rfl, ?_⟩
    refine zct_v ?_ (ct_X10_comesAt hq rfl rfl hF f0 f1 b0 b1)
    first | rfl | (unfold kCm; (repeat (first | rw [if_pos (by omega)] | rw [if_neg (by omega)])); first | rfl | omega | skip)
  · subst e
    refine ⟨0, M_X8_comesAt, hq, rfl, ?_⟩
    refine zct_v ?_ (ct_X8_comesAt hq rfl rfl hF f0 f1 b0 b1)
    first | rfl | (unfold kCm; (repeat (first | rw [if_pos (by omega)] | rw [if_neg (by omega)])); first | rfl | omega | skip)
  · subst e
    refine ⟨2, M_X10_comesAt, hq, rfl, ?_⟩
    refine zct_v ?_ (ct_X10_comesAt hq rfl rfl hF f0 f1 b0 b1)
    first | rfl | (unfold kCm; (repeat (first | rw [if_pos (by omega)] | rw [if_neg (by omega)])); first | rfl | omega | skip)
theorem vt_rank {E : zE} {d : Nat} {k : Nat → Nat × Nat} {h : Nat → Int → Int} {r : Nat → Int → Option Nat} {l : Nat → Nat → Int64} {n : Nat} {v : Nat} {K F : Int} (w : wk k h v K F) : ∃ (c : Nat) (M9 : zM), zkF k v = (c, 2) ∧ zfind [(10, M_X10_rank), (0, M_X10_rank), (1, M_X1_rank), (2, M_X10_rank), (5, M_X5_rank), (6, M_X10_rank), (7, M_X7_rank), (8, M_X10_rank)] c = some M9 ∧ zCT E (d + 3) M9 [.ref v] (zJ (k, h, r, l, n)) 0 0 (zV (.int (iI (kRk K))) (zJ (k, h, r, l, n))) := by
  obtain ⟨hq, ⟨hK, hF⟩, ⟨k0, k1⟩, f0, f1⟩ := w
  rcases (by omega : K = 0 ∨ K = 1 ∨ K = 2 ∨ K = 3 ∨ K = 4 ∨ K = 5 ∨ K = 6 ∨ K = 7) with e | e | e | e | e | e | e | e
  · subst e
    refine ⟨10, M_X10_rank, hq, rfl, ?_⟩
    refine zct_v ?_ (ct_X10_rank hq rfl rfl hF f0 f1)
    first | rfl | (unfold kRk; (repeat (first | rw [if_pos (by omega)] | rw [if_neg (by omega)])); first | rfl | omega | skip)
  · subst e
    refine ⟨5, M_X5_rank, hq, rfl, ?_⟩
    refine zct_v ?_ (ct_X5_rank hq rfl rfl hF f0 f1)
    first | rfl | (unfold kRk; (repeat (first | rw [if_pos (by omega)] | rw [if_neg (by omega)])); first | rfl | omega | skip)
  · subst e
    refine ⟨8, M_X10_rank, hq, rfl, ?_⟩
    refine zct_v ?_ (ct_X10_rank hq rfl rfl hF f0 f1)
    first | rfl | (unfold kRk; (repeat (first | rw [if_pos (by omega)] | rw [if_neg (by omega)])); first | rfl | omega | skip)
  · subst e
    refine ⟨1, M_X1_rank, hq, rfl, ?_⟩
    refine zct_v ?_ (ct_X1_rank hq rfl rfl hF f0 f1)
    first | rfl | (unfold kRk; (repeat (first | rw [if_pos (by omega)] | rw [if_neg (by omega)])); first | rfl | omega | skip)
  · subst e
    refine ⟨7, M_X7_rank, hq, rfl, ?_⟩
    refine zct_v ?_ (ct_X7_rank hq rfl rfl hF f0 f1)
    first | rfl | (unfold kRk; (repeat (first | rw [if_pos (by omega)] | rw [if_neg (by omega)])); first | rfl | omega | skip)
  · subst e
    refine ⟨6, M_X10_rank, hq, rfl, ?_⟩
    refine zct_v ?_ (ct_X10_rank hq rfl rfl hF f0 f1)
    first | rfl | (unfold kRk; (repeat (first | rw [if_pos (by omega)] | rw [if_neg (by omega)])); first | rfl | omega | skip)
  · subst e
    refine ⟨0, M_X10_rank, hq, rfl, ?_⟩
    refine zct_v ?_ (ct_X10_rank hq rfl rfl hF f0 f1)
    first | rfl | (unfold kRk; (repeat (first | rw [if_pos (by omega)] | rw [if_neg (by omega)])); first | rfl | omega | skip)
  · subst e
    refine ⟨2, M_X10_rank, hq, rfl, ?_⟩
    refine zct_v ?_ (ct_X10_rank hq rfl rfl hF f0 f1)
    first | rfl | (unfold kRk; (repeat (first | rw [if_pos (by omega)] | rw [if_neg (by omega)])); first | rfl | omega | skip)
theorem vt_excuse {E : zE} {d : Nat} {k : Nat → Nat × Nat} {h : Nat → Int → Int} {r : Nat → Int → Option Nat} {l : Nat → Nat → Int64} {n : Nat} {v : Nat} {K F : Int} (w : wk k h v K F) : ∃ (c : Nat) (M9 : zM), zkF k v = (c, 2) ∧ zfind [(10, M_X10_excuse), (0, M_X0_excuse), (1, M_X1_excuse), (2, M_X2_excuse), (5, M_X5_excuse), (6, M_X6_excuse), (7, M_X7_excuse), (8, M_X8_excuse)] c = some M9 ∧ zCT E (d + 3) M9 [.ref v] (zJ (k, h, r, l, n)) 0 0 (zV (.int (iI (kEx K F))) (zJ (k, h, r, l, n))) := by
  obtain ⟨hq, ⟨hK, hF⟩, ⟨k0, k1⟩, f0, f1⟩ := w
  rcases (by omega : K = 0 ∨ K = 1 ∨ K = 2 ∨ K = 3 ∨ K = 4 ∨ K = 5 ∨ K = 6 ∨ K = 7) with e | e | e | e | e | e | e | e
  · subst e
    refine ⟨10, M_X10_excuse, hq, rfl, ?_⟩
    refine zct_v ?_ (ct_X10_excuse hq rfl rfl hF f0 f1)
    first | rfl | (unfold kEx; (repeat (first | rw [if_pos (by omega)] | rw [if_neg (by omega)])); first | rfl | omega | skip)
  · subst e
    refine ⟨5, M_X5_excuse, hq, rfl, ?_⟩
    refine zct_v ?_ (ct_X5_excuse hq rfl rfl hF f0 f1)
    first | rfl | (unfold kEx; (repeat (first | rw [if_pos (by omega)] | rw [if_neg (by omega)])); first | rfl | omega | skip)
  · subst e
    refine ⟨8, M_X8_excuse, hq, rfl, ?_⟩
    refine zct_v ?_ (ct_X8_excuse hq rfl rfl hF f0 f1)
    first | rfl | (unfold kEx; (repeat (first | rw [if_pos (by omega)] | rw [if_neg (by omega)])); first | rfl | omega | skip)
  · subst e
    refine ⟨1, M_X1_excuse, hq, rfl, ?_⟩
    refine zct_v ?_ (ct_X1_excuse hq rfl rfl hF f0 f1)
    first | rfl | (unfold kEx; (repeat (first | rw [if_pos (by omega)] | rw [if_neg (by omega)])); first | rfl | omega | skip)
  · subst e
    refine ⟨7, M_X7_excuse, hq, rfl, ?_⟩
    refine zct_v ?_ (ct_X7_excuse hq rfl rfl hF f0 f1)
    first | rfl | (unfold kEx; (repeat (first | rw [if_pos (by omega)] | rw [if_neg (by omega)])); first | rfl | omega | skip)
  · subst e
    refine ⟨6, M_X6_excuse, hq, rfl, ?_⟩
    refine zct_v ?_ (ct_X6_excuse hq rfl rfl hF f0 f1)
    first | rfl | (unfold kEx; (repeat (first | rw [if_pos (by omega)] | rw [if_neg (by omega)])); first | rfl | omega | skip)
  · subst e
    refine ⟨0, M_X0_excuse, hq, rfl, ?_⟩
    refine zct_v ?_ (ct_X0_excuse hq rfl rfl hF f0 f1)
    first | rfl | (unfold kEx; (repeat (first | rw [if_pos (by omega)] | rw [if_neg (by omega)])); first | rfl | omega | skip)
  · subst e
    refine ⟨2, M_X2_excuse, hq, rfl, ?_⟩
    refine zct_v ?_ (ct_X2_excuse hq rfl rfl hF f0 f1)
    first | rfl | (unfold kEx; (repeat (first | rw [if_pos (by omega)] | rw [if_neg (by omega)])); first | rfl | omega | skip)
theorem vt_places {E : zE} {d : Nat} {k : Nat → Nat × Nat} {h : Nat → Int → Int} {r : Nat → Int → Option Nat} {l : Nat → Nat → Int64} {n : Nat} {v : Nat} {K F : Int} (w : wk k h v K F) : ∃ (c : Nat) (M9 : zM), zkF k v = (c, 2) ∧ zfind [(10, M_X10_places), (0, M_X10_places), (1, M_X10_places), (2, M_X2_places), (5, M_X10_places), (6, M_X10_places), (7, M_X10_places), (8, M_X10_places)] c = some M9 ∧ zCT E (d + 3) M9 [.ref v] (zJ (k, h, r, l, n)) 0 0 (zV (.int (iI (kPl K))) (zJ (k, h, r, l, n))) := by
  obtain ⟨hq, ⟨hK, hF⟩, ⟨k0, k1⟩, f0, f1⟩ := w
  rcases (by omega : K = 0 ∨ K = 1 ∨ K = 2 ∨ K = 3 ∨ K = 4 ∨ K = 5 ∨ K = 6 ∨ K = 7) with e | e | e | e | e | e | e | e
  · subst e
    refine ⟨10, M_X10_places, hq, rfl, ?_⟩
    refine zct_v ?_ (ct_X10_places hq rfl rfl hF f0 f1)
    first | rfl | (unfold kPl; (repeat (first | rw [if_pos (by omega)] | rw [if_neg (by omega)])); first | rfl | omega | skip)
  · subst e
    refine ⟨5, M_X10_places, hq, rfl, ?_⟩
    refine zct_v ?_ (ct_X10_places hq rfl rfl hF f0 f1)
    first | rfl | (unfold kPl; (repeat (first | rw [if_pos (by omega)] | rw [if_neg (by omega)])); first | rfl | omega | skip)
  · subst e
    refine ⟨8, M_X10_places, hq, rfl, ?_⟩
    refine zct_v ?_ (ct_X10_places hq rfl rfl hF f0 f1)
    first | rfl | (unfold kPl; (repeat (first | rw [if_pos (by omega)] | rw [if_neg (by omega)])); first | rfl | omega | skip)
  · subst e
    refine ⟨1, M_X10_places, hq, rfl, ?_⟩
    refine zct_v ?_ (ct_X10_places hq rfl rfl hF f0 f1)
    first | rfl | (unfold kPl; (repeat (first | rw [if_pos (by omega)] | rw [if_neg (by omega)])); first | rfl | omega | skip)
  · subst e
    refine ⟨7, M_X10_places, hq, rfl, ?_⟩
    refine zct_v ?_ (ct_X10_places hq rfl rfl hF f0 f1)
    first | rfl | (unfold kPl; (repeat (first | rw [if_pos (by omega)] | rw [if_neg (by omega)])); first | rfl | omega | skip)
  · subst e
    refine ⟨6, M_X10_places, hq, rfl, ?_⟩
    refine zct_v ?_ (ct_X10_places hq rfl rfl hF f0 f1)
    first | rfl | (unfold kPl; (repeat (first | rw [if_pos (by omega)] | rw [if_neg (by omega)])); first | rfl | omega | skip)
  · subst e
    refine ⟨0, M_X10_places, hq, rfl, ?_⟩
    refine zct_v ?_ (ct_X10_places hq rfl rfl hF f0 f1)
    first | rfl | (unfold kPl; (repeat (first | rw [if_pos (by omega)] | rw [if_neg (by omega)])); first | rfl | omega | skip)
  · subst e
    refine ⟨2, M_X2_places, hq, rfl, ?_⟩
    refine zct_v ?_ (ct_X2_places hq rfl rfl hF f0 f1)
    first | rfl | (unfold kPl; (repeat (first | rw [if_pos (by omega)] | rw [if_neg (by omega)])); first | rfl | omega | skip)
theorem vt_offAt {E : zE} {d : Nat} {k : Nat → Nat × Nat} {h : Nat → Int → Int} {r : Nat → Int → Option Nat} {l : Nat → Nat → Int64} {n : Nat} {v : Nat} {K F : Int} (w : wk k h v K F) {b : Int} (b0 : 0 ≤ b) (b1 : b ≤ 100000) : ∃ (c : Nat) (M9 : zM), zkF k v = (c, 2) ∧ zfind [(10, M_X10_offAt), (0, M_X10_offAt), (1, M_X10_offAt), (2, M_X10_offAt), (5, M_X10_offAt), (6, M_X6_offAt), (7, M_X10_offAt), (8, M_X10_offAt)] c = some M9 ∧ zCT E (d + 3) M9 [.ref v, .int (iI (b))] (zJ (k, h, r, l, n)) 0 0 (zV (.int (iI (kOf K b))) (zJ (k, h, r, l, n))) := by
  obtain ⟨hq, ⟨hK, hF⟩, ⟨k0, k1⟩, f0, f1⟩ := w
  rcases (by omega : K = 0 ∨ K = 1 ∨ K = 2 ∨ K = 3 ∨ K = 4 ∨ K = 5 ∨ K = 6 ∨ K = 7) with e | e | e | e | e | e | e | e
  · subst e
    refine ⟨10, M_X10_offAt, hq, rfl, ?_⟩
    refine zct_v ?_ (ct_X10_offAt hq rfl rfl hF f0 f1 b0 b1)
    first | rfl | (unfold kOf; (repeat (first | rw [if_pos (by omega)] | rw [if_neg (by omega)])); first | rfl | omega | skip)
  · subst e
    refine ⟨5, M_X10_offAt, hq, rfl, ?_⟩
    refine zct_v ?_ (ct_X10_offAt hq rfl rfl hF f0 f1 b0 b1)
    first | rfl | (unfold kOf; (repeat (first | rw [if_pos (by omega)] | rw [if_neg (by omega)])); first | rfl | omega | skip)
  · subst e
    refine ⟨8, M_X10_offAt, hq, rfl, ?_⟩
    refine zct_v ?_ (ct_X10_offAt hq rfl rfl hF f0 f1 b0 b1)
    first | rfl | (unfold kOf; (repeat (first | rw [if_pos (by omega)] | rw [if_neg (by omega)])); first | rfl | omega | skip)
  · subst e
    refine ⟨1, M_X10_offAt, hq, rfl, ?_⟩
    refine zct_v ?_ (ct_X10_offAt hq rfl rfl hF f0 f1 b0 b1)
    first | rfl | (unfold kOf; (repeat (first | rw [if_pos (by omega)] | rw [if_neg (by omega)])); first | rfl | omega | skip)
  · subst e
    refine ⟨7, M_X10_offAt, hq, rfl, ?_⟩
    refine zct_v ?_ (ct_X10_offAt hq rfl rfl hF f0 f1 b0 b1)
    first | rfl | (unfold kOf; (repeat (first | rw [if_pos (by omega)] | rw [if_neg (by omega)])); first | rfl | omega | skip)
  · subst e
    refine ⟨6, M_X6_offAt, hq, rfl, ?_⟩
    refine zct_v ?_ (ct_X6_offAt hq rfl rfl hF f0 f1 b0 b1)
    first | rfl | (unfold kOf; (repeat (first | rw [if_pos (by omega)] | rw [if_neg (by omega)])); first | rfl | omega | skip)
  · subst e
    refine ⟨0, M_X10_offAt, hq, rfl, ?_⟩
    refine zct_v ?_ (ct_X10_offAt hq rfl rfl hF f0 f1 b0 b1)
    first | rfl | (unfold kOf; (repeat (first | rw [if_pos (by omega)] | rw [if_neg (by omega)])); first | rfl | omega | skip)
  · subst e
    refine ⟨2, M_X10_offAt, hq, rfl, ?_⟩
    refine zct_v ?_ (ct_X10_offAt hq rfl rfl hF f0 f1 b0 b1)
    first | rfl | (unfold kOf; (repeat (first | rw [if_pos (by omega)] | rw [if_neg (by omega)])); first | rfl | omega | skip)
theorem vt_boards {E : zE} {d : Nat} {k : Nat → Nat × Nat} {h : Nat → Int → Int} {r : Nat → Int → Option Nat} {l : Nat → Nat → Int64} {n : Nat} {v : Nat} {K F : Int} (w : wk k h v K F) {b : Int} (b0 : 0 ≤ b) (b1 : b ≤ 100000) : ∃ (c : Nat) (M9 : zM), zkF k v = (c, 2) ∧ zfind [(10, M_X10_boards), (0, M_X0_boards), (1, M_X10_boards), (2, M_X10_boards), (5, M_X10_boards), (6, M_X10_boards), (7, M_X10_boards), (8, M_X10_boards)] c = some M9 ∧ zCT E (d + 3) M9 [.ref v, .int (iI (b))] (zJ (k, h, r, l, n)) 0 0 (zV (.int (iI (kTk K F b))) (zJ (k, h, r, l, n))) := by
  obtain ⟨hq, ⟨hK, hF⟩, ⟨k0, k1⟩, f0, f1⟩ := w
  rcases (by omega : K = 0 ∨ K = 1 ∨ K = 2 ∨ K = 3 ∨ K = 4 ∨ K = 5 ∨ K = 6 ∨ K = 7) with e | e | e | e | e | e | e | e
  · subst e
    refine ⟨10, M_X10_boards, hq, rfl, ?_⟩
    refine zct_v ?_ (ct_X10_boards hq rfl rfl hF f0 f1 b0 b1)
    first | rfl | (unfold kTk; (repeat (first | rw [if_pos (by omega)] | rw [if_neg (by omega)])); first | rfl | omega | skip)
  · subst e
    refine ⟨5, M_X10_boards, hq, rfl, ?_⟩
    refine zct_v ?_ (ct_X10_boards hq rfl rfl hF f0 f1 b0 b1)
    first | rfl | (unfold kTk; (repeat (first | rw [if_pos (by omega)] | rw [if_neg (by omega)])); first | rfl | omega | skip)
  · subst e
    refine ⟨8, M_X10_boards, hq, rfl, ?_⟩
    refine zct_v ?_ (ct_X10_boards hq rfl rfl hF f0 f1 b0 b1)
    first | rfl | (unfold kTk; (repeat (first | rw [if_pos (by omega)] | rw [if_neg (by omega)])); first | rfl | omega | skip)
  · subst e
    refine ⟨1, M_X10_boards, hq, rfl, ?_⟩
    refine zct_v ?_ (ct_X10_boards hq rfl rfl hF f0 f1 b0 b1)
    first | rfl | (unfold kTk; (repeat (first | rw [if_pos (by omega)] | rw [if_neg (by omega)])); first | rfl | omega | skip)
  · subst e
    refine ⟨7, M_X10_boards, hq, rfl, ?_⟩
    refine zct_v ?_ (ct_X10_boards hq rfl rfl hF f0 f1 b0 b1)
    first | rfl | (unfold kTk; (repeat (first | rw [if_pos (by omega)] | rw [if_neg (by omega)])); first | rfl | omega | skip)
  · subst e
    refine ⟨6, M_X10_boards, hq, rfl, ?_⟩
    refine zct_v ?_ (ct_X10_boards hq rfl rfl hF f0 f1 b0 b1)
    first | rfl | (unfold kTk; (repeat (first | rw [if_pos (by omega)] | rw [if_neg (by omega)])); first | rfl | omega | skip)
  · subst e
    refine ⟨0, M_X0_boards, hq, rfl, ?_⟩
    refine zct_v ?_ (ct_X0_boards hq rfl rfl hF f0 f1 b0 b1)
    first | rfl | (unfold kTk; (repeat (first | rw [if_pos (by omega)] | rw [if_neg (by omega)])); first | rfl | omega | skip)
  · subst e
    refine ⟨2, M_X10_boards, hq, rfl, ?_⟩
    refine zct_v ?_ (ct_X10_boards hq rfl rfl hF f0 f1 b0 b1)
    first | rfl | (unfold kTk; (repeat (first | rw [if_pos (by omega)] | rw [if_neg (by omega)])); first | rfl | omega | skip)
theorem vt_refundFor {E : zE} {d : Nat} {k : Nat → Nat × Nat} {h : Nat → Int → Int} {r : Nat → Int → Option Nat} {l : Nat → Nat → Int64} {n : Nat} {v : Nat} {K F : Int} (w : wk k h v K F) {b : Int} (b0 : 0 ≤ b) (b1 : b ≤ 100000) : ∃ (c : Nat) (M9 : zM), zkF k v = (c, 2) ∧ zfind [(10, M_X10_refundFor), (0, M_X8_refundFor), (1, M_X8_refundFor), (2, M_X2_refundFor), (5, M_X10_refundFor), (6, M_X10_refundFor), (7, M_X7_refundFor), (8, M_X8_refundFor)] c = some M9 ∧ zCT E (d + 3) M9 [.ref v, .int (iI (b))] (zJ (k, h, r, l, n)) 0 0 (zV (.int (iI (kRf K b))) (zJ (k, h, r, l, n))) := by
  obtain ⟨hq, ⟨hK, hF⟩, ⟨k0, k1⟩, f0, f1⟩ := w
  rcases (by omega : K = 0 ∨ K = 1 ∨ K = 2 ∨ K = 3 ∨ K = 4 ∨ K = 5 ∨ K = 6 ∨ K = 7) with e | e | e | e | e | e | e | e
  · subst e
    refine ⟨10, M_X10_refundFor, hq, rfl, ?_⟩
    refine zct_v ?_ (ct_X10_refundFor hq rfl rfl hF f0 f1 b0 b1)
    first | rfl | (unfold kRf; (repeat (first | rw [if_pos (by omega)] | rw [if_neg (by omega)])); first | rfl | omega | skip)
  · subst e
    refine ⟨5, M_X10_refundFor, hq, rfl, ?_⟩
    refine zct_v ?_ (ct_X10_refundFor hq rfl rfl hF f0 f1 b0 b1)
    first | rfl | (unfold kRf; (repeat (first | rw [if_pos (by omega)] | rw [if_neg (by omega)])); first | rfl | omega | skip)
  · subst e
    refine ⟨8, M_X8_refundFor, hq, rfl, ?_⟩
    refine zct_v ?_ (ct_X8_refundFor hq rfl rfl hF f0 f1 b0 b1)
    first | rfl | (unfold kRf; (repeat (first | rw [if_pos (by omega)] | rw [if_neg (by omega)])); first | rfl | omega | skip)
  · subst e
    refine ⟨1, M_X8_refundFor, hq, rfl, ?_⟩
    refine zct_v ?_ (ct_X8_refundFor hq rfl rfl hF f0 f1 b0 b1)
    first | rfl | (unfold kRf; (repeat (first | rw [if_pos (by omega)] | rw [if_neg (by omega)])); first | rfl | omega | skip)
  · subst e
    refine ⟨7, M_X7_refundFor, hq, rfl, ?_⟩
    refine zct_v ?_ (ct_X7_refundFor hq rfl rfl hF f0 f1 b0 b1)
    first | rfl | (unfold kRf; (repeat (first | rw [if_pos (by omega)] | rw [if_neg (by omega)])); first | rfl | omega | skip)
  · subst e
    refine ⟨6, M_X10_refundFor, hq, rfl, ?_⟩
    refine zct_v ?_ (ct_X10_refundFor hq rfl rfl hF f0 f1 b0 b1)
    first | rfl | (unfold kRf; (repeat (first | rw [if_pos (by omega)] | rw [if_neg (by omega)])); first | rfl | omega | skip)
  · subst e
    refine ⟨0, M_X8_refundFor, hq, rfl, ?_⟩
    refine zct_v ?_ (ct_X8_refundFor hq rfl rfl hF f0 f1 b0 b1)
    first | rfl | (unfold kRf; (repeat (first | rw [if_pos (by omega)] | rw [if_neg (by omega)])); first | rfl | omega | skip)
  · subst e
    refine ⟨2, M_X2_refundFor, hq, rfl, ?_⟩
    refine zct_v ?_ (ct_X2_refundFor hq rfl rfl hF f0 f1 b0 b1)
    first | rfl | (unfold kRf; (repeat (first | rw [if_pos (by omega)] | rw [if_neg (by omega)])); first | rfl | omega | skip)
theorem vt_price {E : zE} {d : Nat} {k : Nat → Nat × Nat} {h : Nat → Int → Int} {r : Nat → Int → Option Nat} {l : Nat → Nat → Int64} {n : Nat} {v : Nat} {K F : Int} (w : wk k h v K F) : ∃ (c : Nat) (M9 : zM), zkF k v = (c, 2) ∧ zfind [(10, M_X10_price), (0, M_X0_price), (1, M_X1_price), (2, M_X2_price), (5, M_X5_price), (6, M_X6_price), (7, M_X7_price), (8, M_X8_price)] c = some M9 ∧ zCT E (d + 5) M9 [.ref v] (zJ (k, h, r, l, n)) 0 0 (zV (.int (iI (kCo K F))) (zJ (k, h, r, l, n))) := by
  obtain ⟨hq, ⟨hK, hF⟩, ⟨k0, k1⟩, f0, f1⟩ := w
  rcases (by omega : K = 0 ∨ K = 1 ∨ K = 2 ∨ K = 3 ∨ K = 4 ∨ K = 5 ∨ K = 6 ∨ K = 7) with e | e | e | e | e | e | e | e
  · subst e
    refine ⟨10, M_X10_price, hq, rfl, ?_⟩
    refine zct_v ?_ (ct_X10_price hq rfl rfl hF f0 f1)
    first | rfl | (unfold kCo; (repeat (first | rw [if_pos (by omega)] | rw [if_neg (by omega)])); first | rfl | omega | skip)
  · subst e
    refine ⟨5, M_X5_price, hq, rfl, ?_⟩
    refine zct_v ?_ (ct_X5_price hq rfl rfl hF f0 f1)
    first | rfl | (unfold kCo; (repeat (first | rw [if_pos (by omega)] | rw [if_neg (by omega)])); first | rfl | omega | skip)
  · subst e
    refine ⟨8, M_X8_price, hq, rfl, ?_⟩
    refine zct_v ?_ (ct_X8_price8 hq hF f0 f1)
    first | rfl | (unfold kCo; (repeat (first | rw [if_pos (by omega)] | rw [if_neg (by omega)])); first | rfl | omega | skip)
  · subst e
    refine ⟨1, M_X1_price, hq, rfl, ?_⟩
    refine zct_v ?_ (ct_X1_price hq hF f0 f1)
    first | rfl | (unfold kCo; (repeat (first | rw [if_pos (by omega)] | rw [if_neg (by omega)])); first | rfl | omega | skip)
  · subst e
    refine ⟨7, M_X7_price, hq, rfl, ?_⟩
    refine zct_v ?_ (ct_X7_price hq rfl rfl hF f0 f1)
    first | rfl | (unfold kCo; (repeat (first | rw [if_pos (by omega)] | rw [if_neg (by omega)])); first | rfl | omega | skip)
  · subst e
    refine ⟨6, M_X6_price, hq, rfl, ?_⟩
    refine zct_v ?_ (ct_X6_price hq rfl rfl hF f0 f1)
    first | rfl | (unfold kCo; (repeat (first | rw [if_pos (by omega)] | rw [if_neg (by omega)])); first | rfl | omega | skip)
  · subst e
    refine ⟨0, M_X0_price, hq, rfl, ?_⟩
    refine zct_v ?_ (ct_X0_price hq hF f0 f1)
    first | rfl | (unfold kCo; (repeat (first | rw [if_pos (by omega)] | rw [if_neg (by omega)])); first | rfl | omega | skip)
  · subst e
    refine ⟨2, M_X2_price, hq, rfl, ?_⟩
    refine zct_v ?_ (ct_X2_price hq rfl rfl hF f0 f1)
    first | rfl | (unfold kCo; (repeat (first | rw [if_pos (by omega)] | rw [if_neg (by omega)])); first | rfl | omega | skip)
/-- how many of the first c bits of m are set -/
def pcN (m : Nat) : Nat → Nat
  | 0 => 0
  | c + 1 => pcN m c + zbA m c
def bcF (x : Int32) : Int32 :=
  let a := x - ((x.toUInt32 >>> ((iI 1).toUInt32 &&& Int32.toUInt32 31)).toInt32 &&& iI 1431655765)
  let b := (a &&& iI 858993459) + ((a.toUInt32 >>> ((iI 2).toUInt32 &&& Int32.toUInt32 31)).toInt32 &&& iI 858993459)
  let c := (b + (b.toUInt32 >>> ((iI 4).toUInt32 &&& Int32.toUInt32 31)).toInt32) &&& iI 252645135
  let e := c + (c.toUInt32 >>> ((iI 8).toUInt32 &&& Int32.toUInt32 31)).toInt32
  let f := e + (e.toUInt32 >>> ((iI 16).toUInt32 &&& Int32.toUInt32 31)).toInt32
  f &&& iI 63
def bcAll : Bool := (List.range 4096).all fun m => decide (bcF (nI m) = nI (pcN m 12))
theorem bcAll_ok : bcAll = true := by decide +kernel
theorem bcF_is {m : Nat} (hm : m < 4096) : bcF (nI m) = nI (pcN m 12) := of_decide_eq_true (List.all_eq_true.mp bcAll_ok m (List.mem_range.mpr hm))
def pcI (m : Int) : Int := ((pcN m.toNat 12 : Nat) : Int)
theorem bcF_I {m : Int} (m0 : 0 ≤ m) (m1 : m < 4096) : bcF (iI m) = iI (pcI m) := by
  have e := bcF_is (m := m.toNat) (by omega)
  rw [iI_nat, iI_nat, Int.toNat_of_nonneg m0] at e
  exact e
theorem ct_bitCount {E : zE} {d : Nat} {k : Nat → Nat × Nat} {h : Nat → Int → Int} {r : Nat → Int → Option Nat} {l : Nat → Nat → Int64} {n : Nat} {m : Int} (m0 : 0 ≤ m) (m1 : m < 4096) : zCT E d M_J6_bitCount_0f7a4 [.int (iI m)] (zJ (k, h, r, l, n)) 0 0 (zV (.int (iI (pcI m))) (zJ (k, h, r, l, n))) := by
  have ok := ok_J6_bitCount_0f7a4
  refine zCT_of pn_J6_bitCount_0f7a4 (Nat.le_of_ble_eq_true rfl) ?_
  show zGo _ _ _ _ _ _ 0 ([some (.int (iI m))], [], _, _, _)
  rw [← bcF_I m0 m1]
  refine s_ldI0 ok rfl ?_
  refine s_ldI0 ok rfl ?_
  refine s_ci ok rfl ?_
  refine s_bin ok rfl rfl ?_
  refine s_ci ok rfl ?_
  refine s_bin ok rfl rfl ?_
  refine s_bin ok rfl rfl ?_
  refine s_stI0 ok rfl ?_
  refine s_ldI0 ok rfl ?_
  refine s_ci ok rfl ?_
  refine s_bin ok rfl rfl ?_
  refine s_ldI0 ok rfl ?_
  refine s_ci ok rfl ?_
  refine s_bin ok rfl rfl ?_
  refine s_ci ok rfl ?_
  refine s_bin ok rfl rfl ?_
  refine s_bin ok rfl rfl ?_
  refine s_stI0 ok rfl ?_
  refine s_ldI0 ok rfl ?_
  refine s_ldI0 ok rfl ?_
  refine s_ci ok rfl ?_
  refine s_bin ok rfl rfl ?_
  refine s_bin ok rfl rfl ?_
  refine s_ci ok rfl ?_
  refine s_bin ok rfl rfl ?_
  refine s_stI0 ok rfl ?_
  refine s_ldI0 ok rfl ?_
  refine s_ldI0 ok rfl ?_
  refine s_ci ok rfl ?_
  refine s_bin ok rfl rfl ?_
  refine s_bin ok rfl rfl ?_
  refine s_stI0 ok rfl ?_
  refine s_ldI0 ok rfl ?_
  refine s_ldI0 ok rfl ?_
  refine s_ci ok rfl ?_
  refine s_bin ok rfl rfl ?_
  refine s_bin ok rfl rfl ?_
  refine s_stI0 ok rfl ?_
  refine s_ldI0 ok rfl ?_
  refine s_ci ok rfl ?_
  refine s_bin ok rfl rfl ?_
  exact s_retI ok rfl ⟨rfl, rfl⟩
