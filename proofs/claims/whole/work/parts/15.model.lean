/-! The reference's small methods -/
def zBd (h : Nat → Int → Int) : Prop := ∀ n j, zb (h n j)
/-- of a plan's numbers p: kind, figure, from, to, base of t; when it comes, its excuse, rank, places, where off; whether it takes a depth; its refund -/
def pK (p : Int → Int) (t : Int) : Int := p (19 + 5 * t)
def pF (p : Int → Int) (t : Int) : Int := p (19 + 5 * t + 1)
def pFr (p : Int → Int) (t : Int) : Int := p (19 + 5 * t + 2)
def pTo (p : Int → Int) (t : Int) : Int := p (19 + 5 * t + 3)
def pBa (p : Int → Int) (t : Int) : Int := p (19 + 5 * t + 4)
def kCm (k f b : Int) : Int := if k = 1 then max 0 (b - f) else if k = 2 ∨ k = 6 then b + f else if k = 3 then b + f + 2 else if k = 4 then max 0 (max 0 (b - f) - 3) else b
def kEx (k f : Int) : Int := if k = 1 then 1 else if k = 2 then f else if k = 3 then f + 5 else if k = 4 then 2 else if k = 5 then f / 2 else if k = 6 then max 0 (f - 1) else if k = 7 then 6 else 0
def kRk (k : Int) : Int := if k = 1 then 1 else if k = 3 then 3 else if k = 4 then 0 else 2
def kPl (k : Int) : Int := if k = 7 then 2 else 1
def kOf (k t : Int) : Int := if k = 5 then min 4 (t + 1) else t
def kTk (k f d : Int) : Int := if k = 6 ∧ ¬ f / 3 = d then 0 else 1
def kRf (k d : Int) : Int := if k = 2 ∨ k = 3 ∨ k = 6 then max 0 (2 * d - 1) else if k = 4 then 0 else if k = 7 then 4 * d else 2 * d
def pCm (p : Int → Int) (t : Int) : Int := kCm (pK p t) (pF p t) (pBa p t)
def pEx (p : Int → Int) (t : Int) : Int := kEx (pK p t) (pF p t)
def pRk (p : Int → Int) (t : Int) : Int := kRk (pK p t)
def pPl (p : Int → Int) (t : Int) : Int := kPl (pK p t)
def pOf (p : Int → Int) (t : Int) : Int := kOf (pK p t) (pTo p t)
def pTk (p : Int → Int) (t d : Int) : Int := kTk (pK p t) (pF p t) d
def pRf (p : Int → Int) (t d : Int) : Int := kRf (pK p t) d
/-- a plan's numbers are in their ranges -/
def pOK (p : Int → Int) : Prop := 0 ≤ p 0 ∧ p 0 ≤ 4 ∧ 0 ≤ p 1 ∧ p 1 < 16 ∧ 0 ≤ p 2 ∧ p 2 ≤ 30 ∧ 1 ≤ p 3 ∧ p 3 ≤ 30 ∧ 0 ≤ p 4 ∧ p 4 ≤ 9 ∧ 0 ≤ p 5 ∧ p 5 ≤ 9 ∧ 0 ≤ p 6 ∧ p 6 ≤ 8 ∧
  (∀ i, 7 ≤ i → i < 11 → 1 ≤ p i ∧ p i ≤ 90) ∧ (∀ i, 0 ≤ i → i < 4 → 0 ≤ p (11 + 2 * i) ∧ p (11 + 2 * i) ≤ 300 ∧ 0 ≤ p (11 + 2 * i + 1) ∧ p (11 + 2 * i + 1) ≤ 9) ∧
  ∀ t, 0 ≤ t → t < 8 → (0 ≤ pK p t ∧ pK p t ≤ 7) ∧ (0 ≤ pF p t ∧ pF p t ≤ 9) ∧ (0 ≤ pFr p t ∧ pFr p t < 5) ∧ (0 ≤ pTo p t ∧ pTo p t < 5) ∧ (0 ≤ pBa p t ∧ pBa p t ≤ 360)
theorem ct_isIn {E : zE} {d : Nat} {k : Nat → Nat × Nat} {h : Nat → Int → Int} {r : Nat → Int → Option Nat} {l : Nat → Nat → Int64} {n : Nat} {a0 a1 a2 : Int} (h0 : zb a0) (h1 : zb a1) (h2 : zb a2) : zCT E d M_X12_isIn [.int (iI a0), .int (iI a1), .int (iI a2)] (zJ (k, h, r, l, n)) 0 0 (zV (.int (iI (if a1 ≤ a0 ∧ a0 ≤ a2 then 1 else 0))) (zJ (k, h, r, l, n))) := by
  have ok := ok_X12_isIn
  refine zCT_of pn_X12_isIn (Nat.le_of_ble_eq_true rfl) ?_
  show zGo _ _ _ _ _ _ 0 ([some (.int (iI a0)), some (.int (iI a1)), some (.int (iI a2))], [], _, _, _)
  refine s_ldI0 ok rfl ?_
  refine s_ldI1 ok rfl ?_
  refine s_c_lt ok rfl (by assumption) (by assumption) (fun c2 => ?_) (fun c2 => ?_)
  · refine s_ci ok rfl ?_
    refine s_retZ ok rfl (by first | exact Or.inl rfl | exact Or.inr rfl) ⟨congrArg (fun z => some (Value.int (iI z))) (by first | rw [if_pos (by omega)] | rw [if_neg (by omega)]), rfl⟩
  · refine s_ldI0 ok rfl ?_
    refine s_ldI2 ok rfl ?_
    refine s_c_gt ok rfl (by assumption) (by assumption) (fun c7 => ?_) (fun c7 => ?_)
    · refine s_ci ok rfl ?_
      refine s_retZ ok rfl (by first | exact Or.inl rfl | exact Or.inr rfl) ⟨congrArg (fun z => some (Value.int (iI z))) (by first | rw [if_pos (by omega)] | rw [if_neg (by omega)]), rfl⟩
    · refine s_ci ok rfl ?_
      refine s_goto ok rfl ?_
      refine s_retZ ok rfl (by first | exact Or.inl rfl | exact Or.inr rfl) ⟨congrArg (fun z => some (Value.int (iI z))) (by first | rw [if_pos (by omega)] | rw [if_neg (by omega)]), rfl⟩
theorem ct_least {E : zE} {d : Nat} {k : Nat → Nat × Nat} {h : Nat → Int → Int} {r : Nat → Int → Option Nat} {l : Nat → Nat → Int64} {n : Nat} {a0 a1 : Int} (h0 : zb a0) (h1 : zb a1) : zCT E d M_X12_least [.int (iI a0), .int (iI a1)] (zJ (k, h, r, l, n)) 0 0 (zV (.int (iI (min a0 a1))) (zJ (k, h, r, l, n))) := by
  have ok := ok_X12_least
  refine zCT_of pn_X12_least (Nat.le_of_ble_eq_true rfl) ?_
  show zGo _ _ _ _ _ _ 0 ([some (.int (iI a0)), some (.int (iI a1))], [], _, _, _)
  refine s_ldI0 ok rfl ?_
  refine s_ldI1 ok rfl ?_
  refine s_c_ge ok rfl (by assumption) (by assumption) (fun c2 => ?_) (fun c2 => ?_)
  · refine s_ldI1 ok rfl ?_
    refine s_retI ok rfl ⟨congrArg (fun z => some (Value.int (iI z))) (by first | rfl | omega | (simp only []; omega)), rfl⟩
  · refine s_ldI0 ok rfl ?_
    refine s_goto ok rfl ?_
    refine s_retI ok rfl ⟨congrArg (fun z => some (Value.int (iI z))) (by first | rfl | omega | (simp only []; omega)), rfl⟩
theorem ct_most {E : zE} {d : Nat} {k : Nat → Nat × Nat} {h : Nat → Int → Int} {r : Nat → Int → Option Nat} {l : Nat → Nat → Int64} {n : Nat} {a0 a1 : Int} (h0 : zb a0) (h1 : zb a1) : zCT E d M_X12_most [.int (iI a0), .int (iI a1)] (zJ (k, h, r, l, n)) 0 0 (zV (.int (iI (max a0 a1))) (zJ (k, h, r, l, n))) := by
  have ok := ok_X12_most
  refine zCT_of pn_X12_most (Nat.le_of_ble_eq_true rfl) ?_
  show zGo _ _ _ _ _ _ 0 ([some (.int (iI a0)), some (.int (iI a1))], [], _, _, _)
  refine s_ldI0 ok rfl ?_
  refine s_ldI1 ok rfl ?_
  refine s_c_le ok rfl (by assumption) (by assumption) (fun c2 => ?_) (fun c2 => ?_)
  · refine s_ldI1 ok rfl ?_
    refine s_retI ok rfl ⟨congrArg (fun z => some (Value.int (iI z))) (by first | rfl | omega | (simp only []; omega)), rfl⟩
  · refine s_ldI0 ok rfl ?_
    refine s_goto ok rfl ?_
    refine s_retI ok rfl ⟨congrArg (fun z => some (Value.int (iI z))) (by first | rfl | omega | (simp only []; omega)), rfl⟩
theorem ct_kind {E : zE} {d : Nat} {k : Nat → Nat × Nat} {h : Nat → Int → Int} {r : Nat → Int → Option Nat} {l : Nat → Nat → Int64} {n : Nat} {t : Int} (h0 : 0 ≤ t) (h1 : t < 8) : zCT E d M_X12_kind [.ref 59, .int (iI t)] (zJ (k, h, r, l, n)) 0 0 (zV (.int (iI (pK (h 60) t))) (zJ (k, h, r, l, n))) := by
  have ok := ok_X12_kind
  refine zCT_of pn_X12_kind (Nat.le_of_ble_eq_true rfl) ?_
  show zGo _ _ _ _ _ _ 0 ([some (.ref 59), some (.int (iI t))], [], _, _, _)
  refine s_ldA0 ok rfl ?_
  refine s_getF ok rfl rfl rfl rfl ?_
  refine s_ci ok rfl ?_
  refine s_ci ok rfl ?_
  refine s_ldI1 ok rfl ?_
  refine s_mul ok rfl ?_
  refine s_add ok rfl ?_
  refine s_iald ok rfl (by exact rfl) (by exact rfl) (by omega) (by omega) ?_
  refine s_retI ok rfl ⟨congrArg (fun z => some (Value.int (iI z))) (by first | rfl | omega | (simp only []; omega)), rfl⟩
theorem ct_figure {E : zE} {d : Nat} {k : Nat → Nat × Nat} {h : Nat → Int → Int} {r : Nat → Int → Option Nat} {l : Nat → Nat → Int64} {n : Nat} {t : Int} (h0 : 0 ≤ t) (h1 : t < 8) : zCT E d M_X12_figure [.ref 59, .int (iI t)] (zJ (k, h, r, l, n)) 0 0 (zV (.int (iI (pF (h 60) t))) (zJ (k, h, r, l, n))) := by
  have ok := ok_X12_figure
  refine zCT_of pn_X12_figure (Nat.le_of_ble_eq_true rfl) ?_
  show zGo _ _ _ _ _ _ 0 ([some (.ref 59), some (.int (iI t))], [], _, _, _)
  refine s_ldA0 ok rfl ?_
  refine s_getF ok rfl rfl rfl rfl ?_
  refine s_ci ok rfl ?_
  refine s_ci ok rfl ?_
  refine s_ldI1 ok rfl ?_
  refine s_mul ok rfl ?_
  refine s_add ok rfl ?_
  refine s_ci ok rfl ?_
  refine s_add ok rfl ?_
  refine s_iald ok rfl (by exact rfl) (by exact rfl) (by omega) (by omega) ?_
  refine s_retI ok rfl ⟨congrArg (fun z => some (Value.int (iI z))) (by first | rfl | omega | (simp only []; omega)), rfl⟩
theorem ct_from {E : zE} {d : Nat} {k : Nat → Nat × Nat} {h : Nat → Int → Int} {r : Nat → Int → Option Nat} {l : Nat → Nat → Int64} {n : Nat} {t : Int} (h0 : 0 ≤ t) (h1 : t < 8) : zCT E d M_X12_from [.ref 59, .int (iI t)] (zJ (k, h, r, l, n)) 0 0 (zV (.int (iI (pFr (h 60) t))) (zJ (k, h, r, l, n))) := by
  have ok := ok_X12_from
  refine zCT_of pn_X12_from (Nat.le_of_ble_eq_true rfl) ?_
  show zGo _ _ _ _ _ _ 0 ([some (.ref 59), some (.int (iI t))], [], _, _, _)
  refine s_ldA0 ok rfl ?_
  refine s_getF ok rfl rfl rfl rfl ?_
  refine s_ci ok rfl ?_
  refine s_ci ok rfl ?_
  refine s_ldI1 ok rfl ?_
  refine s_mul ok rfl ?_
  refine s_add ok rfl ?_
  refine s_ci ok rfl ?_
  refine s_add ok rfl ?_
  refine s_iald ok rfl (by exact rfl) (by exact rfl) (by omega) (by omega) ?_
  refine s_retI ok rfl ⟨congrArg (fun z => some (Value.int (iI z))) (by first | rfl | omega | (simp only []; omega)), rfl⟩
theorem ct_to {E : zE} {d : Nat} {k : Nat → Nat × Nat} {h : Nat → Int → Int} {r : Nat → Int → Option Nat} {l : Nat → Nat → Int64} {n : Nat} {t : Int} (h0 : 0 ≤ t) (h1 : t < 8) : zCT E d M_X12_to [.ref 59, .int (iI t)] (zJ (k, h, r, l, n)) 0 0 (zV (.int (iI (pTo (h 60) t))) (zJ (k, h, r, l, n))) := by
  have ok := ok_X12_to
  refine zCT_of pn_X12_to (Nat.le_of_ble_eq_true rfl) ?_
  show zGo _ _ _ _ _ _ 0 ([some (.ref 59), some (.int (iI t))], [], _, _, _)
  refine s_ldA0 ok rfl ?_
  refine s_getF ok rfl rfl rfl rfl ?_
  refine s_ci ok rfl ?_
  refine s_ci ok rfl ?_
  refine s_ldI1 ok rfl ?_
  refine s_mul ok rfl ?_
  refine s_add ok rfl ?_
  refine s_ci ok rfl ?_
  refine s_add ok rfl ?_
  refine s_iald ok rfl (by exact rfl) (by exact rfl) (by omega) (by omega) ?_
  refine s_retI ok rfl ⟨congrArg (fun z => some (Value.int (iI z))) (by first | rfl | omega | (simp only []; omega)), rfl⟩
theorem ct_baseOf {E : zE} {d : Nat} {k : Nat → Nat × Nat} {h : Nat → Int → Int} {r : Nat → Int → Option Nat} {l : Nat → Nat → Int64} {n : Nat} {t : Int} (h0 : 0 ≤ t) (h1 : t < 8) : zCT E d M_X12_baseOf [.ref 59, .int (iI t)] (zJ (k, h, r, l, n)) 0 0 (zV (.int (iI (pBa (h 60) t))) (zJ (k, h, r, l, n))) := by
  have ok := ok_X12_baseOf
  refine zCT_of pn_X12_baseOf (Nat.le_of_ble_eq_true rfl) ?_
  show zGo _ _ _ _ _ _ 0 ([some (.ref 59), some (.int (iI t))], [], _, _, _)
  refine s_ldA0 ok rfl ?_
  refine s_getF ok rfl rfl rfl rfl ?_
  refine s_ci ok rfl ?_
  refine s_ci ok rfl ?_
  refine s_ldI1 ok rfl ?_
  refine s_mul ok rfl ?_
  refine s_add ok rfl ?_
  refine s_ci ok rfl ?_
  refine s_add ok rfl ?_
  refine s_iald ok rfl (by exact rfl) (by exact rfl) (by omega) (by omega) ?_
  refine s_retI ok rfl ⟨congrArg (fun z => some (Value.int (iI z))) (by first | rfl | omega | (simp only []; omega)), rfl⟩

theorem ct_comesAt {E : zE} {d : Nat} {k : Nat → Nat × Nat} {h : Nat → Int → Int} {r : Nat → Int → Option Nat} {l : Nat → Nat → Int64} {n : Nat} (hp : pOK (h 60)) {t : Int} (h0 : 0 ≤ t) (h1 : t < 8) : zCT E (d + 1) M_X12_comesAt [.ref 59, .int (iI t)] (zJ (k, h, r, l, n)) 0 0 (zV (.int (iI (pCm (h 60) t))) (zJ (k, h, r, l, n))) := by
  have ok := ok_X12_comesAt
  refine zCT_of pn_X12_comesAt (Nat.le_of_ble_eq_true rfl) ?_
  show zGo _ _ _ _ _ _ 0 ([some (.ref 59), some (.int (iI t)), none, none], [], _, _, _)
  obtain ⟨⟨k0, k1⟩, ⟨f0, f1⟩, ⟨r0, r1⟩, ⟨t0, t1⟩, ⟨b0, b1⟩⟩ := hp.2.2.2.2.2.2.2.2.2.2.2.2.2.2.2.2 t h0 h1
  refine s_ldA0 ok rfl ?_
  refine s_ldI1 ok rfl ?_
  refine s_callV ok rfl rfl rfl rfl rfl rfl (ct_baseOf h0 h1) ?_
  refine s_stI2 ok rfl rfl ?_
  refine s_ldA0 ok rfl ?_
  refine s_ldI1 ok rfl ?_
  refine s_callV ok rfl rfl rfl rfl rfl rfl (ct_figure h0 h1) ?_
  refine s_stI3 ok rfl rfl ?_
  refine s_ldA0 ok rfl ?_
  refine s_ldI1 ok rfl ?_
  refine s_callV ok rfl rfl rfl rfl rfl rfl (ct_kind h0 h1) ?_
  refine s_sw ok rfl ?_
  refine zsw_c ⟨by omega, by omega⟩ ⟨by omega, by omega⟩ (fun c17 => ?_) (fun c17_1 => ?_)
  · refine s_ci ok rfl ?_
    refine s_ldI2 ok rfl ?_
    refine s_ldI3 ok rfl ?_
    refine s_sub ok rfl ?_
    refine s_callS ok rfl rfl rfl rfl (ct_most ⟨by omega, by omega⟩ ⟨by omega, by omega⟩) ?_
    refine s_retI ok rfl ⟨congrArg (fun z => some (Value.int (iI z))) (by simp only [pCm, kCm]; omega), rfl⟩
  refine zsw_c ⟨by omega, by omega⟩ ⟨by omega, by omega⟩ (fun c17 => ?_) (fun c17_2 => ?_)
  · refine s_ldI2 ok rfl ?_
    refine s_ldI3 ok rfl ?_
    refine s_add ok rfl ?_
    refine s_retI ok rfl ⟨congrArg (fun z => some (Value.int (iI z))) (by simp only [pCm, kCm]; omega), rfl⟩
  refine zsw_c ⟨by omega, by omega⟩ ⟨by omega, by omega⟩ (fun c17 => ?_) (fun c17_3 => ?_)
  · refine s_ldI2 ok rfl ?_
    refine s_ldI3 ok rfl ?_
    refine s_add ok rfl ?_
    refine s_ci ok rfl ?_
    refine s_add ok rfl ?_
    refine s_retI ok rfl ⟨congrArg (fun z => some (Value.int (iI z))) (by simp only [pCm, kCm]; omega), rfl⟩
  refine zsw_c ⟨by omega, by omega⟩ ⟨by omega, by omega⟩ (fun c17 => ?_) (fun c17_4 => ?_)
  · refine s_ci ok rfl ?_
    refine s_ci ok rfl ?_
    refine s_ldI2 ok rfl ?_
    refine s_ldI3 ok rfl ?_
    refine s_sub ok rfl ?_
    refine s_callS ok rfl rfl rfl rfl (ct_most ⟨by omega, by omega⟩ ⟨by omega, by omega⟩) ?_
    refine s_ci ok rfl ?_
    refine s_sub ok rfl ?_
    refine s_callS ok rfl rfl rfl rfl (ct_most ⟨by omega, by omega⟩ ⟨by omega, by omega⟩) ?_
    refine s_retI ok rfl ⟨congrArg (fun z => some (Value.int (iI z))) (by simp only [pCm, kCm]; omega), rfl⟩
  refine zsw_c ⟨by omega, by omega⟩ ⟨by omega, by omega⟩ (fun c17 => ?_) (fun c17_5 => ?_)
  · refine s_ldI2 ok rfl ?_
    refine s_retI ok rfl ⟨congrArg (fun z => some (Value.int (iI z))) (by simp only [pCm, kCm]; omega), rfl⟩
  refine zsw_c ⟨by omega, by omega⟩ ⟨by omega, by omega⟩ (fun c17 => ?_) (fun c17_6 => ?_)
  · refine s_ldI2 ok rfl ?_
    refine s_ldI3 ok rfl ?_
    refine s_add ok rfl ?_
    refine s_retI ok rfl ⟨congrArg (fun z => some (Value.int (iI z))) (by simp only [pCm, kCm]; omega), rfl⟩
  show zGo _ _ _ _ _ _ 88 _
  refine s_ldI2 ok rfl ?_
  refine s_retI ok rfl ⟨congrArg (fun z => some (Value.int (iI z))) (by simp only [pCm, kCm]; omega), rfl⟩
theorem ct_excuseBy {E : zE} {d : Nat} {k : Nat → Nat × Nat} {h : Nat → Int → Int} {r : Nat → Int → Option Nat} {l : Nat → Nat → Int64} {n : Nat} {a f : Int} (h0 : 0 ≤ a) (h1 : a ≤ 7) (h2 : 0 ≤ f) (h3 : f ≤ 9) : zCT E (d + 1) M_X12_excuseBy [.int (iI a), .int (iI f)] (zJ (k, h, r, l, n)) 0 0 (zV (.int (iI (kEx a f))) (zJ (k, h, r, l, n))) := by
  have ok := ok_X12_excuseBy
  refine zCT_of pn_X12_excuseBy (Nat.le_of_ble_eq_true rfl) ?_
  show zGo _ _ _ _ _ _ 0 ([some (.int (iI a)), some (.int (iI f))], [], _, _, _)
  refine s_ldI0 ok rfl ?_
  refine s_sw ok rfl ?_
  refine zsw_c ⟨by omega, by omega⟩ ⟨by omega, by omega⟩ (fun c1 => ?_) (fun c1_1 => ?_)
  · refine s_ci ok rfl ?_
    refine s_retI ok rfl ⟨congrArg (fun z => some (Value.int (iI z))) (by simp only [kEx]; omega), rfl⟩
  refine zsw_c ⟨by omega, by omega⟩ ⟨by omega, by omega⟩ (fun c1 => ?_) (fun c1_2 => ?_)
  · refine s_ldI1 ok rfl ?_
    refine s_retI ok rfl ⟨congrArg (fun z => some (Value.int (iI z))) (by simp only [kEx]; omega), rfl⟩
  refine zsw_c ⟨by omega, by omega⟩ ⟨by omega, by omega⟩ (fun c1 => ?_) (fun c1_3 => ?_)
  · refine s_ldI1 ok rfl ?_
    refine s_ci ok rfl ?_
    refine s_add ok rfl ?_
    refine s_retI ok rfl ⟨congrArg (fun z => some (Value.int (iI z))) (by simp only [kEx]; omega), rfl⟩
  refine zsw_c ⟨by omega, by omega⟩ ⟨by omega, by omega⟩ (fun c1 => ?_) (fun c1_4 => ?_)
  · refine s_ci ok rfl ?_
    refine s_retI ok rfl ⟨congrArg (fun z => some (Value.int (iI z))) (by simp only [kEx]; omega), rfl⟩
  refine zsw_c ⟨by omega, by omega⟩ ⟨by omega, by omega⟩ (fun c1 => ?_) (fun c1_5 => ?_)
  · refine s_ldI1 ok rfl ?_
    refine s_ci ok rfl ?_
    refine s_div ok rfl ⟨by omega, by omega⟩ ⟨by omega, by omega⟩ (by omega) (by omega) ?_
    refine s_retI ok rfl ⟨congrArg (fun z => some (Value.int (iI z))) (by simp only [kEx]; omega), rfl⟩
  refine zsw_c ⟨by omega, by omega⟩ ⟨by omega, by omega⟩ (fun c1 => ?_) (fun c1_6 => ?_)
  · refine s_ci ok rfl ?_
    refine s_ldI1 ok rfl ?_
    refine s_ci ok rfl ?_
    refine s_sub ok rfl ?_
    refine s_callS ok rfl rfl rfl rfl (ct_most ⟨by omega, by omega⟩ ⟨by omega, by omega⟩) ?_
    refine s_retI ok rfl ⟨congrArg (fun z => some (Value.int (iI z))) (by simp only [kEx]; omega), rfl⟩
  refine zsw_c ⟨by omega, by omega⟩ ⟨by omega, by omega⟩ (fun c1 => ?_) (fun c1_7 => ?_)
  · refine s_ci ok rfl ?_
    refine s_retI ok rfl ⟨congrArg (fun z => some (Value.int (iI z))) (by simp only [kEx]; omega), rfl⟩
  show zGo _ _ _ _ _ _ 69 _
  refine s_ci ok rfl ?_
  refine s_retI ok rfl ⟨congrArg (fun z => some (Value.int (iI z))) (by simp only [kEx]; omega), rfl⟩
theorem ct_rankOf {E : zE} {d : Nat} {k : Nat → Nat × Nat} {h : Nat → Int → Int} {r : Nat → Int → Option Nat} {l : Nat → Nat → Int64} {n : Nat} (hp : pOK (h 60)) {t : Int} (h0 : 0 ≤ t) (h1 : t < 8) : zCT E (d + 1) M_X12_rankOf [.ref 59, .int (iI t)] (zJ (k, h, r, l, n)) 0 0 (zV (.int (iI (pRk (h 60) t))) (zJ (k, h, r, l, n))) := by
  have ok := ok_X12_rankOf
  refine zCT_of pn_X12_rankOf (Nat.le_of_ble_eq_true rfl) ?_
  show zGo _ _ _ _ _ _ 0 ([some (.ref 59), some (.int (iI t))], [], _, _, _)
  obtain ⟨⟨k0, k1⟩, ⟨f0, f1⟩, ⟨r0, r1⟩, ⟨t0, t1⟩, ⟨b0, b1⟩⟩ := hp.2.2.2.2.2.2.2.2.2.2.2.2.2.2.2.2 t h0 h1
  refine s_ldA0 ok rfl ?_
  refine s_ldI1 ok rfl ?_
  refine s_callV ok rfl rfl rfl rfl rfl rfl (ct_kind h0 h1) ?_
  refine s_ci ok rfl ?_
  refine s_c_eq ok rfl ⟨by omega, by omega⟩ ⟨by omega, by omega⟩ (fun c6 => ?_) (fun c6 => ?_)
  · refine s_ci ok rfl ?_
    refine s_goto ok rfl ?_
    refine s_retI ok rfl ⟨congrArg (fun z => some (Value.int (iI z))) (by simp only [pRk, kRk]; omega), rfl⟩
  · refine s_ldA0 ok rfl ?_
    refine s_ldI1 ok rfl ?_
    refine s_callV ok rfl rfl rfl rfl rfl rfl (ct_kind h0 h1) ?_
    refine s_ci ok rfl ?_
    refine s_c_eq ok rfl ⟨by omega, by omega⟩ ⟨by omega, by omega⟩ (fun c19 => ?_) (fun c19 => ?_)
    · refine s_ci ok rfl ?_
      refine s_goto ok rfl ?_
      refine s_retI ok rfl ⟨congrArg (fun z => some (Value.int (iI z))) (by simp only [pRk, kRk]; omega), rfl⟩
    · refine s_ldA0 ok rfl ?_
      refine s_ldI1 ok rfl ?_
      refine s_callV ok rfl rfl rfl rfl rfl rfl (ct_kind h0 h1) ?_
      refine s_ci ok rfl ?_
      refine s_c_eq ok rfl ⟨by omega, by omega⟩ ⟨by omega, by omega⟩ (fun c32 => ?_) (fun c32 => ?_)
      · refine s_ci ok rfl ?_
        refine s_goto ok rfl ?_
        refine s_retI ok rfl ⟨congrArg (fun z => some (Value.int (iI z))) (by simp only [pRk, kRk]; omega), rfl⟩
      · refine s_ci ok rfl ?_
        refine s_retI ok rfl ⟨congrArg (fun z => some (Value.int (iI z))) (by simp only [pRk, kRk]; omega), rfl⟩
theorem ct_placesOf {E : zE} {d : Nat} {k : Nat → Nat × Nat} {h : Nat → Int → Int} {r : Nat → Int → Option Nat} {l : Nat → Nat → Int64} {n : Nat} (hp : pOK (h 60)) {t : Int} (h0 : 0 ≤ t) (h1 : t < 8) : zCT E (d + 1) M_X12_placesOf [.ref 59, .int (iI t)] (zJ (k, h, r, l, n)) 0 0 (zV (.int (iI (pPl (h 60) t))) (zJ (k, h, r, l, n))) := by
  have ok := ok_X12_placesOf
  refine zCT_of pn_X12_placesOf (Nat.le_of_ble_eq_true rfl) ?_
  show zGo _ _ _ _ _ _ 0 ([some (.ref 59), some (.int (iI t))], [], _, _, _)
  obtain ⟨⟨k0, k1⟩, ⟨f0, f1⟩, ⟨r0, r1⟩, ⟨t0, t1⟩, ⟨b0, b1⟩⟩ := hp.2.2.2.2.2.2.2.2.2.2.2.2.2.2.2.2 t h0 h1
  refine s_ldA0 ok rfl ?_
  refine s_ldI1 ok rfl ?_
  refine s_callV ok rfl rfl rfl rfl rfl rfl (ct_kind h0 h1) ?_
  refine s_ci ok rfl ?_
  refine s_c_eq ok rfl ⟨by omega, by omega⟩ ⟨by omega, by omega⟩ (fun c7 => ?_) (fun c7 => ?_)
  · refine s_ci ok rfl ?_
    refine s_goto ok rfl ?_
    refine s_retI ok rfl ⟨congrArg (fun z => some (Value.int (iI z))) (by simp only [pPl, kPl]; omega), rfl⟩
  · refine s_ci ok rfl ?_
    refine s_retI ok rfl ⟨congrArg (fun z => some (Value.int (iI z))) (by simp only [pPl, kPl]; omega), rfl⟩
theorem ct_offOf {E : zE} {d : Nat} {k : Nat → Nat × Nat} {h : Nat → Int → Int} {r : Nat → Int → Option Nat} {l : Nat → Nat → Int64} {n : Nat} (hp : pOK (h 60)) {t : Int} (h0 : 0 ≤ t) (h1 : t < 8) : zCT E (d + 1) M_X12_offOf [.ref 59, .int (iI t)] (zJ (k, h, r, l, n)) 0 0 (zV (.int (iI (pOf (h 60) t))) (zJ (k, h, r, l, n))) := by
  have ok := ok_X12_offOf
  refine zCT_of pn_X12_offOf (Nat.le_of_ble_eq_true rfl) ?_
  show zGo _ _ _ _ _ _ 0 ([some (.ref 59), some (.int (iI t))], [], _, _, _)
  obtain ⟨⟨k0, k1⟩, ⟨f0, f1⟩, ⟨r0, r1⟩, ⟨t0, t1⟩, ⟨b0, b1⟩⟩ := hp.2.2.2.2.2.2.2.2.2.2.2.2.2.2.2.2 t h0 h1
  refine s_ldA0 ok rfl ?_
  refine s_ldI1 ok rfl ?_
  refine s_callV ok rfl rfl rfl rfl rfl rfl (ct_kind h0 h1) ?_
  refine s_ci ok rfl ?_
  refine s_c_eq ok rfl ⟨by omega, by omega⟩ ⟨by omega, by omega⟩ (fun c6 => ?_) (fun c6 => ?_)
  · refine s_ci ok rfl ?_
    refine s_ldA0 ok rfl ?_
    refine s_ldI1 ok rfl ?_
    refine s_callV ok rfl rfl rfl rfl rfl rfl (ct_to h0 h1) ?_
    refine s_ci ok rfl ?_
    refine s_add ok rfl ?_
    refine s_callS ok rfl rfl rfl rfl (ct_least ⟨by omega, by omega⟩ ⟨by omega, by omega⟩) ?_
    refine s_goto ok rfl ?_
    refine s_retI ok rfl ⟨congrArg (fun z => some (Value.int (iI z))) (by simp only [pOf, kOf]; omega), rfl⟩
  · refine s_ldA0 ok rfl ?_
    refine s_ldI1 ok rfl ?_
    refine s_callV ok rfl rfl rfl rfl rfl rfl (ct_to h0 h1) ?_
    refine s_retI ok rfl ⟨congrArg (fun z => some (Value.int (iI z))) (by simp only [pOf, kOf]; omega), rfl⟩
theorem ct_wouldTake {E : zE} {d : Nat} {k : Nat → Nat × Nat} {h : Nat → Int → Int} {r : Nat → Int → Option Nat} {l : Nat → Nat → Int64} {n : Nat} (hp : pOK (h 60)) {t : Int} (h0 : 0 ≤ t) (h1 : t < 8) {b : Int} (hb0 : 0 ≤ b) (hb1 : b < 3) : zCT E (d + 1) M_X12_wouldTake [.ref 59, .int (iI t), .int (iI b)] (zJ (k, h, r, l, n)) 0 0 (zV (.int (iI (pTk (h 60) t b))) (zJ (k, h, r, l, n))) := by
  have ok := ok_X12_wouldTake
  refine zCT_of pn_X12_wouldTake (Nat.le_of_ble_eq_true rfl) ?_
  show zGo _ _ _ _ _ _ 0 ([some (.ref 59), some (.int (iI t)), some (.int (iI b))], [], _, _, _)
  obtain ⟨⟨k0, k1⟩, ⟨f0, f1⟩, ⟨r0, r1⟩, ⟨t0, t1⟩, ⟨b0, b1⟩⟩ := hp.2.2.2.2.2.2.2.2.2.2.2.2.2.2.2.2 t h0 h1
  refine s_ldA0 ok rfl ?_
  refine s_ldI1 ok rfl ?_
  refine s_callV ok rfl rfl rfl rfl rfl rfl (ct_kind h0 h1) ?_
  refine s_ci ok rfl ?_
  refine s_c_eq ok rfl ⟨by omega, by omega⟩ ⟨by omega, by omega⟩ (fun c7 => ?_) (fun c7 => ?_)
  · refine s_ldA0 ok rfl ?_
    refine s_ldI1 ok rfl ?_
    refine s_callV ok rfl rfl rfl rfl rfl rfl (ct_figure h0 h1) ?_
    refine s_ci ok rfl ?_
    refine s_div ok rfl ⟨by omega, by omega⟩ ⟨by omega, by omega⟩ (by omega) (by omega) ?_
    refine s_ldI2 ok rfl ?_
    refine s_c_eq ok rfl ⟨by omega, by omega⟩ ⟨by omega, by omega⟩ (fun c18 => ?_) (fun c18 => ?_)
    · refine s_ci ok rfl ?_
      refine s_goto ok rfl ?_
      refine s_retZ ok rfl (by first | exact Or.inl rfl | exact Or.inr rfl) ⟨congrArg (fun z => some (Value.int (iI z))) (by simp only [pTk, kTk]; omega), rfl⟩
    · refine s_ci ok rfl ?_
      refine s_retZ ok rfl (by first | exact Or.inl rfl | exact Or.inr rfl) ⟨congrArg (fun z => some (Value.int (iI z))) (by simp only [pTk, kTk]; omega), rfl⟩
  · refine s_ci ok rfl ?_
    refine s_goto ok rfl ?_
    refine s_retZ ok rfl (by first | exact Or.inl rfl | exact Or.inr rfl) ⟨congrArg (fun z => some (Value.int (iI z))) (by simp only [pTk, kTk]; omega), rfl⟩
theorem ct_refundOf {E : zE} {d : Nat} {k : Nat → Nat × Nat} {h : Nat → Int → Int} {r : Nat → Int → Option Nat} {l : Nat → Nat → Int64} {n : Nat} (hp : pOK (h 60)) {t : Int} (h0 : 0 ≤ t) (h1 : t < 8) {b : Int} (hb0 : 0 ≤ b) (hb1 : b < 3) : zCT E (d + 1) M_X12_refundOf [.ref 59, .int (iI t), .int (iI b)] (zJ (k, h, r, l, n)) 0 0 (zV (.int (iI (pRf (h 60) t b))) (zJ (k, h, r, l, n))) := by
  have ok := ok_X12_refundOf
  refine zCT_of pn_X12_refundOf (Nat.le_of_ble_eq_true rfl) ?_
  show zGo _ _ _ _ _ _ 0 ([some (.ref 59), some (.int (iI t)), some (.int (iI b))], [], _, _, _)
  obtain ⟨⟨k0, k1⟩, ⟨f0, f1⟩, ⟨r0, r1⟩, ⟨t0, t1⟩, ⟨b0, b1⟩⟩ := hp.2.2.2.2.2.2.2.2.2.2.2.2.2.2.2.2 t h0 h1
  refine s_ldA0 ok rfl ?_
  refine s_ldI1 ok rfl ?_
  refine s_callV ok rfl rfl rfl rfl rfl rfl (ct_kind h0 h1) ?_
  refine s_sw ok rfl ?_
  refine zsw_c ⟨by omega, by omega⟩ ⟨by omega, by omega⟩ (fun c5 => ?_) (fun c5_2 => ?_)
  · refine s_ci ok rfl ?_
    refine s_ci ok rfl ?_
    refine s_ldI2 ok rfl ?_
    refine s_mul ok rfl ?_
    refine s_ci ok rfl ?_
    refine s_sub ok rfl ?_
    refine s_callS ok rfl rfl rfl rfl (ct_most ⟨by omega, by omega⟩ ⟨by omega, by omega⟩) ?_
    refine s_retI ok rfl ⟨congrArg (fun z => some (Value.int (iI z))) (by simp only [pRf, kRf]; omega), rfl⟩
  refine zsw_c ⟨by omega, by omega⟩ ⟨by omega, by omega⟩ (fun c5 => ?_) (fun c5_3 => ?_)
  · refine s_ci ok rfl ?_
    refine s_ci ok rfl ?_
    refine s_ldI2 ok rfl ?_
    refine s_mul ok rfl ?_
    refine s_ci ok rfl ?_
    refine s_sub ok rfl ?_
    refine s_callS ok rfl rfl rfl rfl (ct_most ⟨by omega, by omega⟩ ⟨by omega, by omega⟩) ?_
    refine s_retI ok rfl ⟨congrArg (fun z => some (Value.int (iI z))) (by simp only [pRf, kRf]; omega), rfl⟩
  refine zsw_c ⟨by omega, by omega⟩ ⟨by omega, by omega⟩ (fun c5 => ?_) (fun c5_4 => ?_)
  · refine s_ci ok rfl ?_
    refine s_retI ok rfl ⟨congrArg (fun z => some (Value.int (iI z))) (by simp only [pRf, kRf]; omega), rfl⟩
  refine zsw_c ⟨by omega, by omega⟩ ⟨by omega, by omega⟩ (fun c5 => ?_) (fun c5_5 => ?_)
  · refine s_ci ok rfl ?_
    refine s_ldI2 ok rfl ?_
    refine s_mul ok rfl ?_
    refine s_retI ok rfl ⟨congrArg (fun z => some (Value.int (iI z))) (by simp only [pRf, kRf]; omega), rfl⟩
  refine zsw_c ⟨by omega, by omega⟩ ⟨by omega, by omega⟩ (fun c5 => ?_) (fun c5_6 => ?_)
  · refine s_ci ok rfl ?_
    refine s_ci ok rfl ?_
    refine s_ldI2 ok rfl ?_
    refine s_mul ok rfl ?_
    refine s_ci ok rfl ?_
    refine s_sub ok rfl ?_
    refine s_callS ok rfl rfl rfl rfl (ct_most ⟨by omega, by omega⟩ ⟨by omega, by omega⟩) ?_
    refine s_retI ok rfl ⟨congrArg (fun z => some (Value.int (iI z))) (by simp only [pRf, kRf]; omega), rfl⟩
  refine zsw_c ⟨by omega, by omega⟩ ⟨by omega, by omega⟩ (fun c5 => ?_) (fun c5_7 => ?_)
  · refine s_ci ok rfl ?_
    refine s_ldI2 ok rfl ?_
    refine s_mul ok rfl ?_
    refine s_retI ok rfl ⟨congrArg (fun z => some (Value.int (iI z))) (by simp only [pRf, kRf]; omega), rfl⟩
  show zGo _ _ _ _ _ _ 60 _
  refine s_ci ok rfl ?_
  refine s_ldI2 ok rfl ?_
  refine s_mul ok rfl ?_
  refine s_retI ok rfl ⟨congrArg (fun z => some (Value.int (iI z))) (by simp only [pRf, kRf]; omega), rfl⟩
