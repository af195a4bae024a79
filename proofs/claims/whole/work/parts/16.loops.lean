/-! Sums and folds of loops; the reference's loops over people -/
def zsum (f : Int → Int) : Nat → Int
  | 0 => 0
  | p + 1 => zsum f p + f p
def zfo {S : Type} (f : Int → S → S) (s : S) : Nat → S
  | 0 => s
  | p + 1 => f p (zfo f s p)
theorem zfo_inv {S : Type} {f : Int → S → S} {s : S} (I : S → Prop) (h0 : I s) (hs : ∀ p s, I s → I (f p s)) : ∀ n, I (zfo f s n)
  | 0 => h0
  | n + 1 => hs _ _ (zfo_inv I h0 hs n)
theorem zgo_eq {E : zE} {d mc ms pc : Nat} {M : zM} {Q : zQ} {c c' : zC} (e : c = c') (h : zGo E d M mc ms Q pc c') : zGo E d M mc ms Q pc c := e ▸ h
theorem zsum_le {f : Int → Int} {B : Int} (hf : ∀ p, 0 ≤ f p ∧ f p ≤ B) : ∀ n : Nat, 0 ≤ zsum f n ∧ zsum f n ≤ B * n
  | 0 => by simp [zsum]
  | n + 1 => by
    have h1 := zsum_le hf n
    have h2 := hf n
    have h3 : B * ((n + 1 : Nat) : Int) = B * n + B := by rw [Int.natCast_add, Int.mul_add]; simp
    simp only [zsum]
    omega
def zAr (h : Nat → Int → Int) (p : Int) : Int := if h 71 p < 0 then 2000 else h 71 p
def zOn (h : Nat → Int → Int) (p : Int) : Int := if 0 ≤ h 71 p then 1 else 0
theorem ct_arrives {E : zE} {d : Nat} {k : Nat → Nat × Nat} {h : Nat → Int → Int} {r : Nat → Int → Option Nat} {l : Nat → Nat → Int64} {n : Nat} (hb : ∀ j, zb (h 71 j)) {t : Int} (h0 : 0 ≤ t) (h1 : t < 8) : zCT E d M_X12_arrives [.ref 59, .int (iI t)] (zJ (k, h, r, l, n)) 0 0 (zV (.int (iI (zAr h t))) (zJ (k, h, r, l, n))) := by
  have ok := ok_X12_arrives
  refine zCT_of pn_X12_arrives (Nat.le_of_ble_eq_true rfl) ?_
  show zGo _ _ _ _ _ _ 0 ([some (.ref 59), some (.int (iI t))], [], _, _, _)
  refine s_ldA0 ok rfl ?_
  refine s_getF ok rfl rfl rfl rfl ?_
  refine s_ldI1 ok rfl ?_
  refine s_iald ok rfl (by exact rfl) (by exact rfl) (by omega) (by omega) ?_
  refine s_if_ge ok rfl (by first | exact hb _ | exact ⟨by omega, by omega⟩) (fun c6 => ?_) (fun c6 => ?_)
  · refine s_ldA0 ok rfl ?_
    refine s_getF ok rfl rfl rfl rfl ?_
    refine s_ldI1 ok rfl ?_
    refine s_iald ok rfl (by exact rfl) (by exact rfl) (by omega) (by omega) ?_
    refine s_retI ok rfl ⟨congrArg (fun z => some (Value.int (iI z))) (by unfold zAr; first | rw [if_pos (by assumption)] | rw [if_neg (by omega)]), rfl⟩
  · refine s_ci ok rfl ?_
    refine s_goto ok rfl ?_
    refine s_retI ok rfl ⟨congrArg (fun z => some (Value.int (iI z))) (by unfold zAr; first | rw [if_pos (by assumption)] | rw [if_neg (by omega)]), rfl⟩
theorem lp_arriveMany {E : zE} {d : Nat} {k : Nat → Nat × Nat} {h : Nat → Int → Int} {r : Nat → Int → Option Nat} {l : Nat → Nat → Int64} {n : Nat} {Q : zQ} (hb : ∀ j, zb (h 71 j)) {np : Nat} (hn : h 60 6 = np) (hn8 : np ≤ 8) (hQ : Q (some (.int (iI (zsum (zOn h) np)))) (zJ (k, h, r, l, n))) : ∀ c : Nat, ∀ p : Nat, np < p + c → p ≤ np → zGo E d M_X12_arriveMany 0 0 Q 4 ([some (.ref 59), some (.int (iI (zsum (zOn h) p))), some (.int (iI (p : Int)))], [], zJ (k, h, r, l, n), 0, 0) := by
  have ok := ok_X12_arriveMany
  intro c
  induction c with
  | zero =>
    intros
    omega
  | succ c ih =>
    intro p g1 g2
    refine s_ldI2 ok rfl ?_
    refine s_ldA0 ok rfl ?_
    refine s_getF ok rfl rfl rfl rfl ?_
    refine s_ci ok rfl ?_
    refine s_iald ok rfl (by exact rfl) (by exact rfl) (by omega) (by omega) ?_
    refine s_c_ge ok rfl (by first | exact hb _ | exact ⟨by omega, by omega⟩) (by first | exact hb _ | exact ⟨by omega, by omega⟩) (fun c12 => ?_) (fun c12 => ?_)
    · refine s_ldI1 ok rfl ?_
      refine s_retI ok rfl (by rw [show p = np by omega]; exact hQ)
    · refine s_ldI1 ok rfl ?_
      refine s_ldA0 ok rfl ?_
      refine s_getF ok rfl rfl rfl rfl ?_
      refine s_ldI2 ok rfl ?_
      refine s_iald ok rfl (by exact rfl) (by exact rfl) (by omega) (by omega) ?_
      refine s_if_lt ok rfl (by first | exact hb _ | exact ⟨by omega, by omega⟩) (fun c22 => ?_) (fun c22 => ?_)
      · refine s_ci ok rfl ?_
        refine s_add ok rfl ?_
        refine s_stI1 ok rfl rfl ?_
        refine s_inc2 ok rfl rfl ?_
        refine s_goto ok rfl ?_
        refine zgo_eq ?_ (ih (p + 1) (by omega) (by omega))
        simp only [zsum, zOn]
        first | rw [if_pos (by omega)] | rw [if_neg (by omega)]
        rfl
      · refine s_ci ok rfl ?_
        refine s_goto ok rfl ?_
        refine s_add ok rfl ?_
        refine s_stI1 ok rfl rfl ?_
        refine s_inc2 ok rfl rfl ?_
        refine s_goto ok rfl ?_
        refine zgo_eq ?_ (ih (p + 1) (by omega) (by omega))
        simp only [zsum, zOn]
        first | rw [if_pos (by omega)] | rw [if_neg (by omega)]
        rfl
theorem ct_arriveMany {E : zE} {d : Nat} {k : Nat → Nat × Nat} {h : Nat → Int → Int} {r : Nat → Int → Option Nat} {l : Nat → Nat → Int64} {n : Nat} (hb : ∀ j, zb (h 71 j)) {np : Nat} (hn : h 60 6 = np) (hn8 : np ≤ 8) : zCT E d M_X12_arriveMany [.ref 59] (zJ (k, h, r, l, n)) 0 0 (zV (.int (iI (zsum (zOn h) np))) (zJ (k, h, r, l, n))) := by
  have ok := ok_X12_arriveMany
  refine zCT_of pn_X12_arriveMany (Nat.le_of_ble_eq_true rfl) ?_
  show zGo _ _ _ _ _ _ 0 ([some (.ref 59), none, none], [], _, _, _)
  refine s_ci ok rfl ?_
  refine s_stI1 ok rfl rfl ?_
  refine s_ci ok rfl ?_
  refine s_stI2 ok rfl rfl ?_
  exact lp_arriveMany hb hn hn8 ⟨rfl, rfl⟩ (np + 1) 0 (by omega) (by omega)
theorem lp_allMinutes {E : zE} {d : Nat} {k : Nat → Nat × Nat} {h : Nat → Int → Int} {r : Nat → Int → Option Nat} {l : Nat → Nat → Int64} {n : Nat} {Q : zQ} (hb : ∀ j, zb (h 71 j)) {np : Nat} (hn : h 60 6 = np) (hn8 : np ≤ 8) (hQ : Q (some (.int (iI (zsum (zAr h) np)))) (zJ (k, h, r, l, n))) : ∀ c : Nat, ∀ p : Nat, np < p + c → p ≤ np → zGo E (d + 1) M_X12_allMinutes 0 0 Q 4 ([some (.ref 59), some (.int (iI (zsum (zAr h) p))), some (.int (iI (p : Int)))], [], zJ (k, h, r, l, n), 0, 0) := by
  have ok := ok_X12_allMinutes
  intro c
  induction c with
  | zero =>
    intros
    omega
  | succ c ih =>
    intro p g1 g2
    refine s_ldI2 ok rfl ?_
    refine s_ldA0 ok rfl ?_
    refine s_getF ok rfl rfl rfl rfl ?_
    refine s_ci ok rfl ?_
    refine s_iald ok rfl (by exact rfl) (by exact rfl) (by omega) (by omega) ?_
    refine s_c_ge ok rfl (by first | exact hb _ | exact ⟨by omega, by omega⟩) (by first | exact hb _ | exact ⟨by omega, by omega⟩) (fun c12 => ?_) (fun c12 => ?_)
    · refine s_ldI1 ok rfl ?_
      refine s_retI ok rfl (by rw [show p = np by omega]; exact hQ)
    · refine s_ldI1 ok rfl ?_
      refine s_ldA0 ok rfl ?_
      refine s_ldI2 ok rfl ?_
      refine s_callV ok rfl rfl rfl rfl rfl rfl (ct_arrives hb (by omega) (by omega)) ?_
      refine s_add ok rfl ?_
      refine s_stI1 ok rfl rfl ?_
      refine s_inc2 ok rfl rfl ?_
      refine s_goto ok rfl ?_
      exact ih (p + 1) (by omega) (by omega)
theorem ct_allMinutes {E : zE} {d : Nat} {k : Nat → Nat × Nat} {h : Nat → Int → Int} {r : Nat → Int → Option Nat} {l : Nat → Nat → Int64} {n : Nat} (hb : ∀ j, zb (h 71 j)) {np : Nat} (hn : h 60 6 = np) (hn8 : np ≤ 8) : zCT E (d + 1) M_X12_allMinutes [.ref 59] (zJ (k, h, r, l, n)) 0 0 (zV (.int (iI (zsum (zAr h) np))) (zJ (k, h, r, l, n))) := by
  have ok := ok_X12_allMinutes
  refine zCT_of pn_X12_allMinutes (Nat.le_of_ble_eq_true rfl) ?_
  show zGo _ _ _ _ _ _ 0 ([some (.ref 59), none, none], [], _, _, _)
  refine s_ci ok rfl ?_
  refine s_stI1 ok rfl rfl ?_
  refine s_ci ok rfl ?_
  refine s_stI2 ok rfl rfl ?_
  exact lp_allMinutes hb hn hn8 ⟨rfl, rfl⟩ (np + 1) 0 (by omega) (by omega)
def zmxs (f : Int → Int) : Nat → Int
  | 0 => 0
  | p + 1 => max (zmxs f p) (f p)
theorem zmxs_zb {f : Int → Int} (hf : ∀ p, zb (f p)) : ∀ n, zb (zmxs f n)
  | 0 => ⟨by simp [zmxs], by simp [zmxs]⟩
  | n + 1 => by
    have h1 := zmxs_zb hf n
    have h2 := hf n
    unfold zb at *
    simp only [zmxs]
    omega
theorem lp_latest {E : zE} {d : Nat} {k : Nat → Nat × Nat} {h : Nat → Int → Int} {r : Nat → Int → Option Nat} {l : Nat → Nat → Int64} {n : Nat} {Q : zQ} (hb : ∀ j, zb (h 71 j)) {np : Nat} (hn : h 60 6 = np) (hn8 : np ≤ 8) (hQ : Q (some (.int (iI (zmxs (h 71) np)))) (zJ (k, h, r, l, n))) : ∀ c : Nat, ∀ p : Nat, np < p + c → p ≤ np → zGo E (d + 1) M_X12_latest 0 0 Q 4 ([some (.ref 59), some (.int (iI (zmxs (h 71) p))), some (.int (iI (p : Int)))], [], zJ (k, h, r, l, n), 0, 0) := by
  have ok := ok_X12_latest
  intro c
  induction c with
  | zero =>
    intros
    omega
  | succ c ih =>
    intro p g1 g2
    refine s_ldI2 ok rfl ?_
    refine s_ldA0 ok rfl ?_
    refine s_getF ok rfl rfl rfl rfl ?_
    refine s_ci ok rfl ?_
    refine s_iald ok rfl (by exact rfl) (by exact rfl) (by omega) (by omega) ?_
    refine s_c_ge ok rfl (by first | exact hb _ | exact ⟨by omega, by omega⟩) (by first | exact hb _ | exact ⟨by omega, by omega⟩) (fun c12 => ?_) (fun c12 => ?_)
    · refine s_ldI1 ok rfl ?_
      refine s_retI ok rfl (by rw [show p = np by omega]; exact hQ)
    · refine s_ldI1 ok rfl ?_
      refine s_ldA0 ok rfl ?_
      refine s_getF ok rfl rfl rfl rfl ?_
      refine s_ldI2 ok rfl ?_
      refine s_iald ok rfl (by exact rfl) (by exact rfl) (by omega) (by omega) ?_
      refine s_callS ok rfl rfl rfl rfl (ct_most (zmxs_zb hb _) (hb _)) ?_
      refine s_stI1 ok rfl rfl ?_
      refine s_inc2 ok rfl rfl ?_
      refine s_goto ok rfl ?_
      exact ih (p + 1) (by omega) (by omega)
theorem ct_latest {E : zE} {d : Nat} {k : Nat → Nat × Nat} {h : Nat → Int → Int} {r : Nat → Int → Option Nat} {l : Nat → Nat → Int64} {n : Nat} (hb : ∀ j, zb (h 71 j)) {np : Nat} (hn : h 60 6 = np) (hn8 : np ≤ 8) : zCT E (d + 1) M_X12_latest [.ref 59] (zJ (k, h, r, l, n)) 0 0 (zV (.int (iI (zmxs (h 71) np))) (zJ (k, h, r, l, n))) := by
  have ok := ok_X12_latest
  refine zCT_of pn_X12_latest (Nat.le_of_ble_eq_true rfl) ?_
  show zGo _ _ _ _ _ _ 0 ([some (.ref 59), none, none], [], _, _, _)
  refine s_ci ok rfl ?_
  refine s_stI1 ok rfl rfl ?_
  refine s_ci ok rfl ?_
  refine s_stI2 ok rfl rfl ?_
  exact lp_latest hb hn hn8 ⟨rfl, rfl⟩ (np + 1) 0 (by omega) (by omega)
/-- array y gets the first c places of x -/
def zly (x y : Nat) (c : Int) (h : Nat → Int → Int) : Nat → Int → Int := fun a b => if a = y ∧ 0 ≤ b ∧ b < c then h x b else h a b
theorem zly_0 {x y : Nat} {h : Nat → Int → Int} : zly x y 0 h = h := by
  funext a b
  unfold zly
  rw [if_neg (by omega)]
theorem zly_s {x y : Nat} {c : Nat} {h : Nat → Int → Int} (hxy : x ≠ y) : zv (zly x y c h) y c (zly x y c h x c) = zly x y ((c : Int) + 1) h := by
  funext a b
  rw [zv_eq]
  unfold zly
  by_cases e : a = y ∧ b = c
  · obtain ⟨rfl, rfl⟩ := e
    rw [if_pos ⟨rfl, rfl⟩, if_neg (by omega), if_pos (by omega)]
  · rw [if_neg e]
    by_cases q : a = y ∧ 0 ≤ b ∧ b < c
    · rw [if_pos q, if_pos (by omega)]
    · rw [if_neg q, if_neg (by omega)]
theorem lp_lays {E : zE} {d : Nat} {k : Nat → Nat × Nat} {h : Nat → Int → Int} {r : Nat → Int → Option Nat} {l : Nat → Nat → Int64} {n : Nat} {Q : zQ} {x y : Nat} (hx : zkF k x = (16, 59)) (hy : zkF k y = (16, 59)) (hxy : x ≠ y) (hQ : Q none (zJ (k, zly x y 59 h, r, l, n))) : ∀ c : Nat, ∀ p : Nat, 59 < p + c → p ≤ 59 → zGo E d M_X12_lays 0 0 Q 2 ([some (.ref x), some (.ref y), some (.int (iI (p : Int)))], [], zJ (k, zly x y p h, r, l, n), 0, 0) := by
  have ok := ok_X12_lays
  intro c
  induction c with
  | zero =>
    intros
    omega
  | succ c ih =>
    intro p g1 g2
    refine s_ldI2 ok rfl ?_
    refine s_ci ok rfl ?_
    refine s_c_ge ok rfl (by first | exact hb _ | exact ⟨by omega, by omega⟩) (by first | exact hb _ | exact ⟨by omega, by omega⟩) (fun c5 => ?_) (fun c5 => ?_)
    · refine s_retV ok rfl (by rw [← show (p : Int) = 59 by omega] at hQ; exact hQ)
    · refine s_ldA1 ok rfl ?_
      refine s_ldI2 ok rfl ?_
      refine s_ldA0 ok rfl ?_
      refine s_ldI2 ok rfl ?_
      refine s_iald ok rfl hx (by exact rfl) (by omega) (by omega) ?_
      refine s_iast ok rfl hy (by exact rfl) (by omega) (by omega) (fun q => by cases q) ?_
      refine s_inc2 ok rfl rfl ?_
      refine s_goto ok rfl ?_
      refine zgo_eq ?_ (ih (p + 1) (by omega) (by omega))
      rw [zly_s hxy]
      rfl
theorem ct_lays {E : zE} {d : Nat} {k : Nat → Nat × Nat} {h : Nat → Int → Int} {r : Nat → Int → Option Nat} {l : Nat → Nat → Int64} {n : Nat} {x y : Nat} (hx : zkF k x = (16, 59)) (hy : zkF k y = (16, 59)) (hxy : x ≠ y) : zCT E d M_X12_lays [.ref x, .ref y] (zJ (k, h, r, l, n)) 0 0 (zU (zJ (k, zly x y 59 h, r, l, n))) := by
  have ok := ok_X12_lays
  refine zCT_of pn_X12_lays (Nat.le_of_ble_eq_true rfl) ?_
  show zGo _ _ _ _ _ _ 0 ([some (.ref x), some (.ref y), none], [], _, _, _)
  refine s_ci ok rfl ?_
  refine s_stI2 ok rfl rfl ?_
  refine zgo_eq ?_ (lp_lays (h := h) hx hy hxy ⟨rfl, rfl⟩ 60 0 (by omega) (by omega))
  rw [show ((0 : Nat) : Int) = 0 from rfl, zly_0]
