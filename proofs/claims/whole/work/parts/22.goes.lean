/-! The events in their order: the methods nextTrain, begins, goes -/
/-- the train whose event is next among the first c: the least minute, the first of equals; -4 if none -/
def sNx (h : Nat → Int → Int) : Nat → Int
  | 0 => -4
  | c + 1 => if h 63 c < 5 ∧ (sNx h c < 0 ∨ h 64 c < h 64 (sNx h c)) then c else sNx h c
theorem sNx_in (h : Nat → Int → Int) : ∀ c : Nat, sNx h c = -4 ∨ (0 ≤ sNx h c ∧ sNx h c < c ∧ h 63 (sNx h c) < 5)
  | 0 => Or.inl rfl
  | c + 1 => by
    have i := sNx_in h c
    have e : sNx h (c + 1) = if h 63 c < 5 ∧ (sNx h c < 0 ∨ h 64 c < h 64 (sNx h c)) then (c : Int) else sNx h c := rfl
    by_cases q : h 63 c < 5 ∧ (sNx h c < 0 ∨ h 64 c < h 64 (sNx h c))
    · rw [if_pos q] at e
      rw [e]
      exact Or.inr ⟨by omega, by omega, q.1⟩
    · rw [if_neg q] at e
      rw [e]
      omega
theorem lp_next {E : zE} {d : Nat} {k : Nat → Nat × Nat} {h : Nat → Int → Int} {r : Nat → Int → Option Nat} {l : Nat → Nat → Int64} {n : Nat} {Q : zQ} {nt : Nat} (hn : 3 * h 60 0 = (nt : Int)) (hn8 : nt ≤ 12) (hz : ∀ y : Int, 0 ≤ y → y < nt → zb (h 63 y) ∧ zb (h 64 y)) (hQ : Q (some (.int (iI (sNx h nt)))) (zJ (k, h, r, l, n))) : ∀ c : Nat, ∀ p : Nat, nt < p + c → p ≤ nt → zGo E d M_X12_nextTrain 0 0 Q 5 ([some (.ref 59), some (.int (iI (sNx h p))), some (.int (iI ((p : Int))))], [], zJ (k, h, r, l, n), 0, 0) := by
  have ok := ok_X12_nextTrain
  intro c
  induction c with
  | zero =>
    intros
    omega
  | succ c ih =>
    intro p g1 g2
    have i := sNx_in h p
    have e9 : sNx h (p + 1) = if h 63 p < 5 ∧ (sNx h p < 0 ∨ h 64 p < h 64 (sNx h p)) then (p : Int) else sNx h p := rfl
    have hq : nt = p → Q (some (.int (iI (sNx h p)))) (zJ (k, h, r, l, n)) := fun e => e ▸ hQ
    have ihp := ih (p + 1)
    generalize sNx h p = b at *
    refine s_ldI2 ok rfl ?_
    refine s_ci ok rfl ?_
    refine s_ldA0 ok rfl ?_
    refine s_getF ok rfl rfl rfl rfl ?_
    refine s_ci ok rfl ?_
    refine s_iald ok rfl (by exact rfl) (by exact rfl) (by omega) (by omega) ?_
    refine s_mul ok rfl ?_
    refine s_c_ge ok rfl (by first | exact hb _ _ | exact ⟨by omega, by omega⟩) (by first | exact hb _ _ | exact ⟨by omega, by omega⟩) (fun c14 => ?_) (fun c14 => ?_)
    · refine s_ldI1 ok rfl ?_
      refine s_retI ok rfl (hq (by omega))
    · obtain ⟨z3, z4⟩ := hz p (by omega) (by omega)
      refine s_ldA0 ok rfl ?_
      refine s_getF ok rfl rfl rfl rfl ?_
      refine s_ldI2 ok rfl ?_
      refine s_iald ok rfl (by exact rfl) (by exact rfl) (by omega) (by omega) ?_
      refine s_ci ok rfl ?_
      refine s_c_ge ok rfl z3 ⟨by omega, by omega⟩ (fun c24 => ?_) (fun c24 => ?_)
      · refine s_inc2 ok rfl rfl ?_
        refine s_goto ok rfl ?_
        have hh := ihp (by omega) (by omega)
        first | rw [e9, if_pos (by omega)] at hh | rw [e9, if_neg (by omega)] at hh
        exact hh
      · refine s_ldI1 ok rfl ?_
        refine s_if_lt ok rfl (by first | exact hb _ _ | exact ⟨by omega, by omega⟩) (fun c28 => ?_) (fun c28 => ?_)
        · refine s_ldI2 ok rfl ?_
          refine s_stI1 ok rfl rfl ?_
          refine s_inc2 ok rfl rfl ?_
          refine s_goto ok rfl ?_
          have hh := ihp (by omega) (by omega)
          first | rw [e9, if_pos (by omega)] at hh | rw [e9, if_neg (by omega)] at hh
          exact hh
        · obtain ⟨z5, z6⟩ := hz b (by omega) (by omega)
          refine s_ldA0 ok rfl ?_
          refine s_getF ok rfl rfl rfl rfl ?_
          refine s_ldI2 ok rfl ?_
          refine s_iald ok rfl (by exact rfl) (by exact rfl) (by omega) (by omega) ?_
          refine s_ldA0 ok rfl ?_
          refine s_getF ok rfl rfl rfl rfl ?_
          refine s_ldI1 ok rfl ?_
          refine s_iald ok rfl (by exact rfl) (by exact rfl) (by omega) (by omega) ?_
          refine s_c_ge ok rfl z4 z6 (fun c43 => ?_) (fun c43 => ?_)
          · refine s_inc2 ok rfl rfl ?_
            refine s_goto ok rfl ?_
            have hh := ihp (by omega) (by omega)
            first | rw [e9, if_pos (by omega)] at hh | rw [e9, if_neg (by omega)] at hh
            exact hh
          · refine s_ldI2 ok rfl ?_
            refine s_stI1 ok rfl rfl ?_
            refine s_inc2 ok rfl rfl ?_
            refine s_goto ok rfl ?_
            have hh := ihp (by omega) (by omega)
            first | rw [e9, if_pos (by omega)] at hh | rw [e9, if_neg (by omega)] at hh
            exact hh
theorem ct_nextTrain {E : zE} {d : Nat} {k : Nat → Nat × Nat} {h : Nat → Int → Int} {r : Nat → Int → Option Nat} {l : Nat → Nat → Int64} {n : Nat} {nt : Nat} (hn : 3 * h 60 0 = (nt : Int)) (hn8 : nt ≤ 12) (hz : ∀ y : Int, 0 ≤ y → y < nt → zb (h 63 y) ∧ zb (h 64 y)) : zCT E d M_X12_nextTrain [.ref 59] (zJ (k, h, r, l, n)) 0 0 (zV (.int (iI (sNx h nt))) (zJ (k, h, r, l, n))) := by
  have ok := ok_X12_nextTrain
  refine zCT_of pn_X12_nextTrain (Nat.le_of_ble_eq_true rfl) ?_
  show zGo _ _ _ _ _ _ 0 ([some (.ref 59), none, none], [], _, _, _)
  refine s_ci ok rfl ?_
  refine s_stI1 ok rfl rfl ?_
  refine s_ci ok rfl ?_
  refine s_stI2 ok rfl rfl ?_
  exact lp_next (k := k) (r := r) (l := l) (n := n) hn hn8 hz (Q := zV (.int (iI (sNx h nt))) (zJ (k, h, r, l, n))) ⟨rfl, rfl⟩ (nt + 1) 0 (by omega) (by omega)
theorem zv_ne {f : Nat → Int → Int} {n m : Nat} {j c v : Int} (hj : ¬ j = c) : zv f n c v m j = f m j := by
  rw [zv_eq]
  exact if_neg (fun q => hj q.2)
/-- the trains at their beginning, the first c -/
def sB1 (h : Nat → Int → Int) (c : Int) : Nat → Int → Int := fun n j => if 0 ≤ j ∧ j < c ∧ 63 ≤ n ∧ n ≤ 66 then (if n = 63 then (if j % 3 < h 59 18 then 0 else 5) else if n = 64 then h 60 (11 + 2 * (j / 3)) + j % 3 * h 60 3 else 0) else h n j
/-- the people at their beginning, the first c -/
def sB2 (h : Nat → Int → Int) (c : Int) : Nat → Int → Int := fun n j => if 0 ≤ j ∧ j < c ∧ 69 ≤ n ∧ n ≤ 74 then (if n ≤ 71 then -4 else 0) else h n j
def sBeg (h : Nat → Int → Int) : Nat → Int → Int := sB2 (sB1 h (3 * h 60 0)) (h 60 6)
theorem sB1_lo {h : Nat → Int → Int} {c : Int} {m : Nat} (hm : m < 63 ∨ 66 < m) : sB1 h c m = h m := by
  funext j
  unfold sB1
  exact if_neg (by omega)
theorem sB2_lo {h : Nat → Int → Int} {c : Int} {m : Nat} (hm : m < 69 ∨ 74 < m) : sB2 h c m = h m := by
  funext j
  unfold sB2
  exact if_neg (by omega)
theorem sB1_0 {h : Nat → Int → Int} : sB1 h 0 = h := by
  funext m j
  unfold sB1
  exact if_neg (by omega)
theorem sB2_0 {h : Nat → Int → Int} : sB2 h 0 = h := by
  funext m j
  unfold sB2
  exact if_neg (by omega)
theorem sB1_s {h : Nat → Int → Int} {c : Int} (c0 : 0 ≤ c) : sB1 h (c + 1) = zv (zv (zv (zv (sB1 h c) 63 c (if c % 3 < h 59 18 then 0 else 5)) 64 c (h 60 (11 + 2 * (c / 3)) + c % 3 * h 60 3)) 65 c 0) 66 c 0 := by
  funext m j
  by_cases hj : j = c
  · rw [hj]
    by_cases m66 : m = 66
    · rw [m66, zv_is]
      unfold sB1
      rw [if_pos (by omega), if_neg (by omega), if_neg (by omega)]
    rw [zv_other m66]
    by_cases m65 : m = 65
    · rw [m65, zv_is]
      unfold sB1
      rw [if_pos (by omega), if_neg (by omega), if_neg (by omega)]
    rw [zv_other m65]
    by_cases m64 : m = 64
    · rw [m64, zv_is]
      unfold sB1
      rw [if_pos (by omega), if_neg (by omega), if_pos rfl]
    rw [zv_other m64]
    by_cases m63 : m = 63
    · rw [m63, zv_is]
      unfold sB1
      rw [if_pos (by omega), if_pos rfl]
    rw [zv_other m63]
    unfold sB1
    rw [if_neg (by omega), if_neg (by omega)]
  · rw [zv_ne hj, zv_ne hj, zv_ne hj, zv_ne hj]
    unfold sB1
    by_cases q : 0 ≤ j ∧ j < c ∧ 63 ≤ m ∧ m ≤ 66
    · rw [if_pos q, if_pos (show 0 ≤ j ∧ j < c + 1 ∧ 63 ≤ m ∧ m ≤ 66 by omega)]
    · rw [if_neg q, if_neg (show ¬ (0 ≤ j ∧ j < c + 1 ∧ 63 ≤ m ∧ m ≤ 66) by omega)]
theorem sB2_s {h : Nat → Int → Int} {c : Int} (c0 : 0 ≤ c) : sB2 h (c + 1) = zv (zv (zv (zv (zv (zv (sB2 h c) 69 c (-4)) 70 c (-4)) 71 c (-4)) 72 c 0) 73 c 0) 74 c 0 := by
  funext m j
  by_cases hj : j = c
  · rw [hj]
    by_cases m74 : m = 74
    · rw [m74, zv_is]
      unfold sB2
      rw [if_pos (by omega), if_neg (by omega)]
    rw [zv_other m74]
    by_cases m73 : m = 73
    · rw [m73, zv_is]
      unfold sB2
      rw [if_pos (by omega), if_neg (by omega)]
    rw [zv_other m73]
    by_cases m72 : m = 72
    · rw [m72, zv_is]
      unfold sB2
      rw [if_pos (by omega), if_neg (by omega)]
    rw [zv_other m72]
    by_cases m71 : m = 71
    · rw [m71, zv_is]
      unfold sB2
      rw [if_pos (by omega), if_pos (by omega)]
    rw [zv_other m71]
    by_cases m70 : m = 70
    · rw [m70, zv_is]
      unfold sB2
      rw [if_pos (by omega), if_pos (by omega)]
    rw [zv_other m70]
    by_cases m69 : m = 69
    · rw [m69, zv_is]
      unfold sB2
      rw [if_pos (by omega), if_pos (by omega)]
    rw [zv_other m69]
    unfold sB2
    rw [if_neg (by omega), if_neg (by omega)]
  · rw [zv_ne hj, zv_ne hj, zv_ne hj, zv_ne hj, zv_ne hj, zv_ne hj]
    unfold sB2
    by_cases q : 0 ≤ j ∧ j < c ∧ 69 ≤ m ∧ m ≤ 74
    · rw [if_pos q, if_pos (show 0 ≤ j ∧ j < c + 1 ∧ 69 ≤ m ∧ m ≤ 74 by omega)]
    · rw [if_neg q, if_neg (show ¬ (0 ≤ j ∧ j < c + 1 ∧ 69 ≤ m ∧ m ≤ 74) by omega)]
theorem lp_begins_in {E : zE} {d : Nat} {k : Nat → Nat × Nat} {h : Nat → Int → Int} {r : Nat → Int → Option Nat} {l : Nat → Nat → Int64} {n : Nat} {Q : zQ} {t : Nat} (t4 : t < 4) (h2 : zb (h 59 18)) (hQ : ∀ v, znl v = true → zGo E d M_X12_begins 0 0 Q 90 ([some (.ref 59), some (.int (iI ((t : Int)))), some (.int (iI ((3 : Nat) : Int))), v], [], zJ (k, sB1 h (3 * t + ((3 : Nat) : Int)), r, l, n), 0, 0)) : ∀ c : Nat, ∀ (kk : Nat) (v : Option Value), znl v = true → 3 < kk + c → kk ≤ 3 → zGo E d M_X12_begins 0 0 Q 14 ([some (.ref 59), some (.int (iI ((t : Int)))), some (.int (iI (kk : Int))), v], [], zJ (k, sB1 h (3 * t + (kk : Int)), r, l, n), 0, 0) := by
  have ok := ok_X12_begins
  intro c
  induction c with
  | zero =>
    intros
    omega
  | succ c ih =>
    intro kk v hv g1 g2
    refine s_ldI2 ok rfl ?_
    refine s_ci ok rfl ?_
    refine s_c_ge ok rfl (by first | exact hb _ _ | exact ⟨by omega, by omega⟩) (by first | exact hb _ _ | exact ⟨by omega, by omega⟩) (fun c16 => ?_) (fun c16 => ?_)
    · rw [show kk = 3 by omega]
      exact hQ v hv
    · have e3 := sB1_s (h := h) (c := 3 * (t : Int) + (kk : Int)) (by omega)
      rw [show (3 * (t : Int) + (kk : Int)) % 3 = kk by omega, show (3 * (t : Int) + (kk : Int)) / 3 = t by omega] at e3
      have y60 : sB1 h (3 * (t : Int) + (kk : Int)) 60 = h 60 := sB1_lo (by omega)
      have y59 : sB1 h (3 * (t : Int) + (kk : Int)) 59 = h 59 := sB1_lo (by omega)
      rw [← y60, ← y59] at e3
      have hz2 := h2
      rw [← y59] at hz2
      have hh := fun v9 hv9 a b => ih (kk + 1) v9 hv9 a b
      rw [show (3 * (t : Int) + ((kk + 1 : Nat) : Int)) = 3 * t + kk + 1 by omega, e3] at hh
      clear e3
      generalize sB1 h (3 * (t : Int) + (kk : Int)) = g at *
      refine s_ci ok rfl ?_
      refine s_ldI1 ok rfl ?_
      refine s_mul ok rfl ?_
      refine s_ldI2 ok rfl ?_
      refine s_add ok rfl ?_
      refine s_stI3 ok rfl rfl ?_
      refine s_ldA0 ok rfl ?_
      refine s_getF ok rfl rfl rfl rfl ?_
      refine s_ldI3 ok rfl ?_
      refine s_ldI2 ok rfl ?_
      refine s_ldA0 ok rfl ?_
      refine s_getJ 18 ok rfl rfl rfl rfl ?_
      refine s_c_ge ok rfl ⟨by omega, by omega⟩ hz2 (fun c35 => ?_) (fun c35 => ?_)
      · refine s_ci ok rfl ?_
        refine s_iast ok rfl (by exact rfl) (by exact rfl) (by omega) (by omega) (fun q => by cases q) ?_
        refine s_ldA0 ok rfl ?_
        refine s_getF ok rfl rfl rfl rfl ?_
        refine s_ldI3 ok rfl ?_
        refine s_ldA0 ok rfl ?_
        refine s_getF ok rfl rfl rfl rfl ?_
        refine s_ci ok rfl ?_
        refine s_ci ok rfl ?_
        refine s_ldI1 ok rfl ?_
        refine s_mul ok rfl ?_
        refine s_add ok rfl ?_
        refine s_iald ok rfl (by exact rfl) (by exact rfl) (by omega) (by omega) ?_
        refine s_ldI2 ok rfl ?_
        refine s_ldA0 ok rfl ?_
        refine s_getF ok rfl rfl rfl rfl ?_
        refine s_ci ok rfl ?_
        refine s_iald ok rfl (by exact rfl) (by exact rfl) (by omega) (by omega) ?_
        refine s_mul ok rfl ?_
        refine s_add ok rfl ?_
        refine s_iast ok rfl (by exact rfl) (by exact rfl) (by omega) (by omega) (fun q => by cases q) ?_
        refine s_ldA0 ok rfl ?_
        refine s_getF ok rfl rfl rfl rfl ?_
        refine s_ldI3 ok rfl ?_
        refine s_ci ok rfl ?_
        refine s_iast ok rfl (by exact rfl) (by exact rfl) (by omega) (by omega) (fun q => by cases q) ?_
        refine s_ldA0 ok rfl ?_
        refine s_getF ok rfl rfl rfl rfl ?_
        refine s_ldI3 ok rfl ?_
        refine s_ci ok rfl ?_
        refine s_iast ok rfl (by exact rfl) (by exact rfl) (by omega) (by omega) (fun q => by cases q) ?_
        refine s_inc2 ok rfl rfl ?_
        refine s_goto ok rfl ?_
        first | rw [if_pos c35] at hh | rw [if_neg (by omega)] at hh
        exact hh _ rfl (by omega) (by omega)
      · refine s_ci ok rfl ?_
        refine s_goto ok rfl ?_
        refine s_iast ok rfl (by exact rfl) (by exact rfl) (by omega) (by omega) (fun q => by cases q) ?_
        refine s_ldA0 ok rfl ?_
        refine s_getF ok rfl rfl rfl rfl ?_
        refine s_ldI3 ok rfl ?_
        refine s_ldA0 ok rfl ?_
        refine s_getF ok rfl rfl rfl rfl ?_
        refine s_ci ok rfl ?_
        refine s_ci ok rfl ?_
        refine s_ldI1 ok rfl ?_
        refine s_mul ok rfl ?_
        refine s_add ok rfl ?_
        refine s_iald ok rfl (by exact rfl) (by exact rfl) (by omega) (by omega) ?_
        refine s_ldI2 ok rfl ?_
        refine s_ldA0 ok rfl ?_
        refine s_getF ok rfl rfl rfl rfl ?_
        refine s_ci ok rfl ?_
        refine s_iald ok rfl (by exact rfl) (by exact rfl) (by omega) (by omega) ?_
        refine s_mul ok rfl ?_
        refine s_add ok rfl ?_
        refine s_iast ok rfl (by exact rfl) (by exact rfl) (by omega) (by omega) (fun q => by cases q) ?_
        refine s_ldA0 ok rfl ?_
        refine s_getF ok rfl rfl rfl rfl ?_
        refine s_ldI3 ok rfl ?_
        refine s_ci ok rfl ?_
        refine s_iast ok rfl (by exact rfl) (by exact rfl) (by omega) (by omega) (fun q => by cases q) ?_
        refine s_ldA0 ok rfl ?_
        refine s_getF ok rfl rfl rfl rfl ?_
        refine s_ldI3 ok rfl ?_
        refine s_ci ok rfl ?_
        refine s_iast ok rfl (by exact rfl) (by exact rfl) (by omega) (by omega) (fun q => by cases q) ?_
        refine s_inc2 ok rfl rfl ?_
        refine s_goto ok rfl ?_
        first | rw [if_pos c35] at hh | rw [if_neg (by omega)] at hh
        exact hh _ rfl (by omega) (by omega)
theorem lp_begins {E : zE} {d : Nat} {k : Nat → Nat × Nat} {h : Nat → Int → Int} {r : Nat → Int → Option Nat} {l : Nat → Nat → Int64} {n : Nat} {Q : zQ} (h2 : zb (h 59 18)) {nt : Nat} (hn : h 60 0 = (nt : Int)) (hn8 : nt ≤ 4) (hQ : ∀ u v, znl u = true → znl v = true → zGo E d M_X12_begins 0 0 Q 96 ([some (.ref 59), some (.int (iI ((nt : Int)))), u, v], [], zJ (k, sB1 h (3 * (nt : Int)), r, l, n), 0, 0)) : ∀ c : Nat, ∀ (t : Nat) (u v : Option Value), znl u = true → znl v = true → nt < t + c → t ≤ nt → zGo E d M_X12_begins 0 0 Q 2 ([some (.ref 59), some (.int (iI ((t : Int)))), u, v], [], zJ (k, sB1 h (3 * (t : Int)), r, l, n), 0, 0) := by
  have ok := ok_X12_begins
  intro c
  induction c with
  | zero =>
    intros
    omega
  | succ c ih =>
    intro t u v hu hv g1 g2
    have y60 : sB1 h (3 * (t : Int)) 60 = h 60 := sB1_lo (by omega)
    have y0 : sB1 h (3 * (t : Int)) 60 0 = h 60 0 := by rw [y60]
    refine s_ldI1 ok rfl ?_
    refine s_ldA0 ok rfl ?_
    refine s_getF ok rfl rfl rfl rfl ?_
    refine s_ci ok rfl ?_
    refine s_iald ok rfl (by exact rfl) (by exact rfl) (by omega) (by omega) ?_
    refine s_c_ge ok rfl (by first | exact hb _ _ | exact ⟨by omega, by omega⟩) (by first | exact hb _ _ | exact ⟨by omega, by omega⟩) (fun c9 => ?_) (fun c9 => ?_)
    · have e := hQ u v hu hv
      rw [show nt = t by omega] at e
      exact e
    · refine s_ci ok rfl ?_
      refine s_stI2 ok rfl rfl ?_
      refine zgo_eq ?_ (lp_begins_in (k := k) (r := r) (l := l) (n := n) (h := h) (t := t) (by omega) h2 ?_ 4 0 v hv (by omega) (by omega))
      · rw [show 3 * (t : Int) + ((0 : Nat) : Int) = 3 * t by omega]
        rfl
      intro v9 hv9
      refine s_inc1 ok rfl rfl ?_
      refine s_goto ok rfl ?_
      refine zgo_eq ?_ (ih (t + 1) (some (.int (iI ((3 : Nat) : Int)))) v9 rfl hv9 (by omega) (by omega))
      rw [show 3 * (t : Int) + ((3 : Nat) : Int) = 3 * ((t + 1 : Nat) : Int) by omega]
      rfl
theorem lp_begins2 {E : zE} {d : Nat} {k : Nat → Nat × Nat} {h : Nat → Int → Int} {r : Nat → Int → Option Nat} {l : Nat → Nat → Int64} {n : Nat} {Q : zQ} {np : Nat} (hn : h 60 6 = (np : Int)) (hn8 : np ≤ 8) {u v : Option Value} (hQ : Q none (zJ (k, sB2 h (np : Int), r, l, n))) : ∀ c : Nat, ∀ (p : Nat), np < p + c → p ≤ np → zGo E d M_X12_begins 0 0 Q 98 ([some (.ref 59), some (.int (iI ((p : Int)))), u, v], [], zJ (k, sB2 h (p : Int), r, l, n), 0, 0) := by
  have ok := ok_X12_begins
  intro c
  induction c with
  | zero =>
    intros
    omega
  | succ c ih =>
    intro p g1 g2
    have y60 : sB2 h (p : Int) 60 = h 60 := sB2_lo (by omega)
    have y0 : sB2 h (p : Int) 60 6 = h 60 6 := by rw [y60]
    have e3 := sB2_s (h := h) (c := (p : Int)) (by omega)
    have hh := ih (p + 1)
    rw [show ((p + 1 : Nat) : Int) = p + 1 by omega, e3] at hh
    have hq : np = p → Q none (zJ (k, sB2 h (p : Int), r, l, n)) := fun e => e ▸ hQ
    clear e3
    generalize sB2 h (p : Int) = g at *
    refine s_ldI1 ok rfl ?_
    refine s_ldA0 ok rfl ?_
    refine s_getF ok rfl rfl rfl rfl ?_
    refine s_ci ok rfl ?_
    refine s_iald ok rfl (by exact rfl) (by exact rfl) (by omega) (by omega) ?_
    refine s_c_ge ok rfl (by first | exact hb _ _ | exact ⟨by omega, by omega⟩) (by first | exact hb _ _ | exact ⟨by omega, by omega⟩) (fun c106 => ?_) (fun c106 => ?_)
    · refine s_retV ok rfl (hq (by omega))
    · refine s_ldA0 ok rfl ?_
      refine s_getF ok rfl rfl rfl rfl ?_
      refine s_ldI1 ok rfl ?_
      refine s_ci ok rfl ?_
      refine s_iast ok rfl (by exact rfl) (by exact rfl) (by omega) (by omega) (fun q => by cases q) ?_
      refine s_ldA0 ok rfl ?_
      refine s_getF ok rfl rfl rfl rfl ?_
      refine s_ldI1 ok rfl ?_
      refine s_ci ok rfl ?_
      refine s_iast ok rfl (by exact rfl) (by exact rfl) (by omega) (by omega) (fun q => by cases q) ?_
      refine s_ldA0 ok rfl ?_
      refine s_getF ok rfl rfl rfl rfl ?_
      refine s_ldI1 ok rfl ?_
      refine s_ci ok rfl ?_
      refine s_iast ok rfl (by exact rfl) (by exact rfl) (by omega) (by omega) (fun q => by cases q) ?_
      refine s_ldA0 ok rfl ?_
      refine s_getF ok rfl rfl rfl rfl ?_
      refine s_ldI1 ok rfl ?_
      refine s_ci ok rfl ?_
      refine s_iast ok rfl (by exact rfl) (by exact rfl) (by omega) (by omega) (fun q => by cases q) ?_
      refine s_ldA0 ok rfl ?_
      refine s_getF ok rfl rfl rfl rfl ?_
      refine s_ldI1 ok rfl ?_
      refine s_ci ok rfl ?_
      refine s_iast ok rfl (by exact rfl) (by exact rfl) (by omega) (by omega) (fun q => by cases q) ?_
      refine s_ldA0 ok rfl ?_
      refine s_getF ok rfl rfl rfl rfl ?_
      refine s_ldI1 ok rfl ?_
      refine s_ci ok rfl ?_
      refine s_iast ok rfl (by exact rfl) (by exact rfl) (by omega) (by omega) (fun q => by cases q) ?_
      refine s_inc1 ok rfl rfl ?_
      refine s_goto ok rfl ?_
      exact hh (by omega) (by omega)
theorem ct_begins {E : zE} {d : Nat} {k : Nat → Nat × Nat} {h : Nat → Int → Int} {r : Nat → Int → Option Nat} {l : Nat → Nat → Int64} {n : Nat} (hp : pOK (h 60)) (h2 : zb (h 59 18)) : zCT E d M_X12_begins [.ref 59] (zJ (k, h, r, l, n)) 0 0 (zU (zJ (k, sBeg h, r, l, n))) := by
  have ok := ok_X12_begins
  refine zCT_of pn_X12_begins (Nat.le_of_ble_eq_true rfl) ?_
  show zGo _ _ _ _ _ _ 0 ([some (.ref 59), none, none, none], [], _, _, _)
  have n0 := hp.1
  have n1 := hp.2.1
  have n2 := hp.2.2.2.2.2.2.2.2.2.2.2.2.1
  have n3 := hp.2.2.2.2.2.2.2.2.2.2.2.2.2.1
  obtain ⟨nt, en⟩ : ∃ nt : Nat, h 60 0 = (nt : Int) := ⟨(h 60 0).toNat, by omega⟩
  obtain ⟨np, em⟩ : ∃ np : Nat, h 60 6 = (np : Int) := ⟨(h 60 6).toNat, by omega⟩
  refine s_ci ok rfl ?_
  refine s_stI1 ok rfl rfl ?_
  refine zgo_eq ?_ (lp_begins (k := k) (r := r) (l := l) (n := n) (h := h) h2 en (by omega) ?_ (nt + 1) 0 none none rfl rfl (by omega) (by omega))
  · rw [show 3 * ((0 : Nat) : Int) = 0 from rfl, sB1_0]
    rfl
  intro u v hu hv
  refine s_ci ok rfl ?_
  refine s_stI1 ok rfl rfl ?_
  have y60 : sB1 h (3 * (nt : Int)) 60 = h 60 := sB1_lo (by omega)
  have e := lp_begins2 (E := E) (d := d) (k := k) (r := r) (l := l) (n := n) (h := sB1 h (3 * (nt : Int))) (np := np) (Q := zU (zJ (k, sBeg h, r, l, n))) (by rw [y60]; exact em) (by omega) (u := u) (v := v) ?_ (np + 1) 0 (by omega) (by omega)
  · rw [show ((0 : Nat) : Int) = 0 from rfl, sB2_0] at e
    exact e
  unfold sBeg
  rw [en, em]
  exact ⟨rfl, rfl⟩
/-! What the trains keep over the day's events -/
def dW (h : Nat → Int → Int) (x : Int) : Prop := (0 ≤ h 63 x ∧ h 63 x ≤ 5) ∧ (0 ≤ h 64 x ∧ h 64 x ≤ 400 + 300 * h 63 x) ∧ (-(40 * h 63 x) ≤ h 65 x ∧ h 65 x ≤ 40 * h 63 x) ∧ (0 ≤ h 66 x ∧ h 66 x ≤ 1000)
def dZ (h : Nat → Int → Int) : Prop := dP h ∧ ∀ x : Int, 0 ≤ x → x < 3 * h 60 0 → dW h x
/-- what one event changes -/
def dT (x : Int) (h g : Nat → Int → Int) : Prop := (∀ n, n < 63 ∨ 75 < n → ¬ n = 59 → g n = h n) ∧ (∀ j, ¬ j = 19 → g 59 j = h 59 j) ∧ (∀ n j, 63 ≤ n → n ≤ 66 → ¬ j = x → g n j = h n j) ∧ g 63 x = h 63 x + 1 ∧ (h 64 x ≤ g 64 x ∧ g 64 x ≤ h 64 x + 300) ∧ (h 65 x - 40 ≤ g 65 x ∧ g 65 x ≤ h 65 x + 40) ∧ (0 ≤ g 66 x ∧ g 66 x ≤ 1000) ∧ dP g
theorem sStop_ok {x : Int} {h : Nat → Int → Int} (hd : dP h) (hx : dX h x) (x0 : 0 ≤ x) (x1 : x < 3 * h 60 0) : dT x h (sStop x h) := by
  have o1 := hd.1.2.1
  have x2 : x < 12 := by omega
  obtain ⟨⟨s0, s1⟩, ⟨t0, t1⟩, ⟨u0, u1⟩, ⟨v0, v1⟩⟩ := hx
  obtain ⟨a1, a2, a3, a4, a5, a6, a7, a8, a9, ⟨a10, a11⟩, a12⟩ := sS4_ok (x := x) hd ⟨by omega, by omega⟩ x0 x2
  have rr := hd.1.2.2.2.2.2.2.2.2.2.2.2.2.2.2.1 (7 + h 63 x)
  have r4 := hd.1.2.2.2.2.2.2.2.2.1
  have r4b := hd.1.2.2.2.2.2.2.2.2.2.1
  have r5 := hd.1.2.2.2.2.2.2.2.2.2.2.1
  have r5b := hd.1.2.2.2.2.2.2.2.2.2.2.2.1
  have f3 : sS4 x h 63 x = h 63 x := by rw [a3]
  have b64 : h 64 x ≤ sS7 x h 64 x ∧ sS7 x h 64 x ≤ h 64 x + 300 := by
    unfold sS7
    split
    · rename_i q
      obtain ⟨ra, rb⟩ := rr (by omega) (by omega)
      obtain ⟨D0, D1⟩ := zmul3 (a := h 60 (7 + h 63 x)) (b := x % 3) (c := h 60 4) (by omega) rb (by omega) (by omega) r4 r4b
      rw [zv_is]
      split <;> omega
    · have : sS6 x h 64 x = h 64 x := by
        show sS4 x h 64 x = h 64 x
        rw [a4]
      omega
  have b66 : 0 ≤ sS5 x h 66 x ∧ sS5 x h 66 x ≤ 1000 := by
    unfold sS5
    rw [zv_is, a5]
    omega
  have m7 : ∀ (m : Nat) (j : Int), ¬ m = 64 ∨ ¬ j = x → sS7 x h m j = sS6 x h m j := by
    intro m j hm
    unfold sS7
    split
    · rw [zv_eq, if_neg (by omega)]
    · rfl
  have n7 : ∀ m : Nat, ¬ m = 64 → sS7 x h m = sS6 x h m := fun m hm => funext fun j => m7 m j (Or.inl hm)
  have n6 : ∀ m : Nat, ¬ m = 66 → ¬ m = 68 → sS6 x h m = sS4 x h m := fun m h6 h8 => funext fun j => by
    unfold sS6 sS5
    rw [zv_other h8, zv_other h6]
  have nS : ∀ m : Nat, ¬ m = 63 → sStop x h m = sS7 x h m := fun m h6 => funext fun j => by
    unfold sStop
    rw [zv_other h6]
  have nn : ∀ m : Nat, ¬ m = 63 → ¬ m = 64 → ¬ m = 66 → ¬ m = 68 → sStop x h m = sS4 x h m := fun m h3 h4 h6 h8 => ((nS m h3).trans (n7 m h4)).trans (n6 m h6 h8)
  refine ⟨fun m h1 h2 => (nn m (by omega) (by omega) (by omega) (by omega)).trans (a1 m h1 h2), fun j hj => ?_, fun m j h1 h2 hj => ?_, ?_, ?_, ?_, ?_, ?_⟩
  · rw [nn 59 (by omega) (by omega) (by omega) (by omega)]
    exact a2 j hj
  · have e : sStop x h m j = sS6 x h m j := by
      unfold sStop
      rw [zv_ne hj, m7 m j (Or.inr hj)]
    rw [e]
    unfold sS6 sS5
    rw [zv_other (by omega), zv_ne hj]
    by_cases m3 : m = 63
    · rw [m3, a3]
    by_cases m4 : m = 64
    · rw [m4, a4]
    by_cases m5 : m = 65
    · rw [m5]
      exact a8 j hj
    · rw [show m = 66 by omega, a5]
  · unfold sStop
    rw [zv_is]
  · rw [nS 64 (by omega)]
    exact b64
  · rw [nn 65 (by omega) (by omega) (by omega) (by omega)]
    omega
  · rw [nS 66 (by omega), n7 66 (by omega)]
    exact b66
  · refine ⟨?_, ?_, ?_, ?_, ?_⟩
    · rw [nn 60 (by omega) (by omega) (by omega) (by omega)]; exact a9.1
    · rw [nn 69 (by omega) (by omega) (by omega) (by omega)]; exact a9.2.1
    · rw [nn 71 (by omega) (by omega) (by omega) (by omega)]; exact a9.2.2.1
    · rw [nn 72 (by omega) (by omega) (by omega) (by omega)]; exact a9.2.2.2.1
    · rw [nn 59 (by omega) (by omega) (by omega) (by omega)]; exact a9.2.2.2.2
theorem dZ_stop {x : Int} {h : Nat → Int → Int} (hd : dZ h) (x0 : 0 ≤ x) (x1 : x < 3 * h 60 0) (hs : h 63 x < 5) : dX h x ∧ dT x h (sStop x h) ∧ dZ (sStop x h) := by
  have hw := hd.2 x x0 x1
  have hx : dX h x := ⟨⟨hw.1.1, by omega⟩, hw.2⟩
  have ht := sStop_ok hd.1 hx x0 x1
  refine ⟨hx, ht, ht.2.2.2.2.2.2.2, fun y y0 y1 => ?_⟩
  obtain ⟨t1, t2, t3, t4, t5, t6, t7, t8⟩ := ht
  rw [t1 60 (by omega) (by omega)] at y1
  have hy := hd.2 y y0 y1
  by_cases e : y = x
  · rw [e]
    unfold dW at *
    omega
  · unfold dW at *
    rw [t3 63 y (by omega) (by omega) e, t3 64 y (by omega) (by omega) e, t3 65 y (by omega) (by omega) e, t3 66 y (by omega) (by omega) e]
    exact hy
theorem dZ_beg {h : Nat → Int → Int} (hd : dP h) : dZ (sBeg h) ∧ (∀ n, n < 63 ∨ 75 < n → sBeg h n = h n) := by
  have fr : ∀ n, n < 63 ∨ 75 < n → sBeg h n = h n := fun n hn => by
    unfold sBeg
    rw [sB2_lo (by omega), sB1_lo (by omega)]
  have b9 : ∀ m j, 69 ≤ m → m ≤ 74 → sBeg h m j = h m j ∨ (sBeg h m j = -4 ∧ m ≤ 71) ∨ sBeg h m j = 0 := fun m j m0 m1 => by
    unfold sBeg sB2
    split
    · split
      · rename_i q; exact Or.inr (Or.inl ⟨rfl, q⟩)
      · exact Or.inr (Or.inr rfl)
    · exact Or.inl (by rw [sB1_lo (by omega)])
  have tr := hd.1.2.2.2.2.2.2.2.2.2.2.2.2.2.2.2.1
  have r3 := hd.1.2.2.2.2.2.2.1
  have r3b := hd.1.2.2.2.2.2.2.2.1
  have o1 := hd.1.2.1
  refine ⟨⟨⟨?_, fun j => ?_, fun j => ?_, fun p p0 p1 => ?_, ?_⟩, fun x x0 x1 => ?_⟩, fr⟩
  · rw [fr 60 (by omega)]; exact hd.1
  · have := hd.2.1 j
    unfold zb at *
    have := b9 69 j (by omega) (by omega)
    omega
  · have := hd.2.2.1 j
    unfold zb at *
    have := b9 71 j (by omega) (by omega)
    omega
  · have := hd.2.2.2.1 p p0 p1
    have := b9 72 p (by omega) (by omega)
    omega
  · rw [fr 59 (by omega)]; exact hd.2.2.2.2
  · rw [fr 60 (by omega)] at x1
    have e : ∀ m : Nat, 63 ≤ m → m ≤ 66 → sBeg h m x = (if m = 63 then (if x % 3 < h 59 18 then 0 else 5) else if m = 64 then h 60 (11 + 2 * (x / 3)) + x % 3 * h 60 3 else 0) := fun m m0 m1 => by
      unfold sBeg
      rw [sB2_lo (by omega)]
      exact if_pos ⟨x0, x1, m0, m1⟩
    have ht := tr (x / 3) (by omega) (by omega)
    have p0 : 0 ≤ x % 3 * h 60 3 := Int.mul_nonneg (by omega) (by omega)
    have p1 : x % 3 * h 60 3 ≤ 2 * 30 := Int.mul_le_mul (by omega) r3b (by omega) (by omega)
    unfold dW
    rw [(e 63 (by omega) (by omega)).trans (if_pos rfl), (e 64 (by omega) (by omega)).trans ((if_neg (by omega)).trans (if_pos rfl)), (e 65 (by omega) (by omega)).trans ((if_neg (by omega)).trans (if_neg (by omega))), (e 66 (by omega) (by omega)).trans ((if_neg (by omega)).trans (if_neg (by omega)))]
    split <;> omega
/-- the stops that are still to come, among the first c -/
def sMz (h : Nat → Int → Int) : Nat → Int
  | 0 => 0
  | c + 1 => sMz h c + (5 - h 63 c)
theorem sMz_ge {h : Nat → Int → Int} : ∀ c : Nat, (∀ y : Int, 0 ≤ y → y < c → h 63 y ≤ 5) → 0 ≤ sMz h c
  | 0, _ => Int.le_refl _
  | c + 1, hy => by
    have i := sMz_ge (h := h) c (fun y y0 y1 => hy y y0 (by omega))
    have j := hy c (by omega) (by omega)
    show 0 ≤ sMz h c + (5 - h 63 c)
    omega
theorem sMz_st {h g : Nat → Int → Int} {x : Int} (x0 : 0 ≤ x) (hx : g 63 x = h 63 x + 1) (hg : ∀ y, ¬ y = x → g 63 y = h 63 y) : ∀ c : Nat, sMz g c = sMz h c - (if x < c then 1 else 0)
  | 0 => by rw [if_neg (by omega)]; rfl
  | c + 1 => by
    have i := sMz_st (h := h) (g := g) x0 hx hg c
    show sMz g c + (5 - g 63 c) = sMz h c + (5 - h 63 c) - _
    rw [i]
    by_cases e : (c : Int) = x
    · rw [e, hx, if_neg (by omega), if_pos (by omega)]
      omega
    · rw [hg c e]
      by_cases q : x < (c : Int)
      · rw [if_pos q, if_pos (by omega)]; omega
      · rw [if_neg q, if_neg (by omega)]; omega
theorem sMz_le {h : Nat → Int → Int} : ∀ c : Nat, (∀ y : Int, 0 ≤ y → y < c → 0 ≤ h 63 y) → sMz h c ≤ 5 * c
  | 0, _ => Int.le_refl _
  | c + 1, hy => by
    have i := sMz_le (h := h) c (fun y y0 y1 => hy y y0 (by omega))
    have j := hy c (by omega) (by omega)
    show sMz h c + (5 - h 63 c) ≤ _
    omega
/-- the number of running trains -/
def nT (h : Nat → Int → Int) : Nat := (3 * h 60 0).toNat
/-- at most c events, one after another -/
def sEvs : Nat → (Nat → Int → Int) → Nat → Int → Int
  | 0, h => h
  | c + 1, h => if sNx h (nT h) < 0 then h else sEvs c (sStop (sNx h (nT h)) h)
def sGoes (h : Nat → Int → Int) : Nat → Int → Int := sEvs 61 (sBeg h)
theorem sEvs_ok : ∀ (c : Nat) {h : Nat → Int → Int}, dZ h → dZ (sEvs c h) ∧ (∀ n, n < 63 ∨ 75 < n → ¬ n = 59 → sEvs c h n = h n) ∧ (∀ j, ¬ j = 19 → sEvs c h 59 j = h 59 j)
  | 0, h, hd => ⟨hd, fun _ _ _ => rfl, fun _ _ => rfl⟩
  | c + 1, h, hd => by
    unfold sEvs
    split
    · exact ⟨hd, fun _ _ _ => rfl, fun _ _ => rfl⟩
    · have n0 := hd.1.1.1
      have i := sNx_in h (nT h)
      have e : (nT h : Int) = 3 * h 60 0 := by unfold nT; omega
      generalize sNx h (nT h) = x at *
      obtain ⟨-, ht, hz⟩ := dZ_stop hd (x := x) (by omega) (by omega) (by omega)
      obtain ⟨i1, i2, i3⟩ := sEvs_ok c hz
      exact ⟨i1, fun n h1 h2 => (i2 n h1 h2).trans (ht.1 n h1 h2), fun j hj => (i3 j hj).trans (ht.2.1 j hj)⟩
theorem ct_nx {E : zE} {d : Nat} {k : Nat → Nat × Nat} {h : Nat → Int → Int} {r : Nat → Int → Option Nat} {l : Nat → Nat → Int64} {n : Nat} (hd : dZ h) : zCT E d M_X12_nextTrain [.ref 59] (zJ (k, h, r, l, n)) 0 0 (zV (.int (iI (sNx h (nT h)))) (zJ (k, h, r, l, n))) := by
  have n0 := hd.1.1.1
  have n1 := hd.1.1.2.1
  have e9 : (nT h : Int) = 3 * h 60 0 := by unfold nT; omega
  refine ct_nextTrain e9.symm (by omega) (fun y y0 y1 => ?_)
  obtain ⟨⟨a, b⟩, ⟨c, e⟩, -⟩ := hd.2 y y0 (by omega)
  exact ⟨⟨by omega, by omega⟩, ⟨by omega, by omega⟩⟩
theorem lp_goes {E : zE} {d : Nat} {k : Nat → Nat × Nat} {h : Nat → Int → Int} {r : Nat → Int → Option Nat} {l : Nat → Nat → Int64} {n : Nat} {Q : zQ} {G : Nat → Int → Int} (hQ : Q none (zJ (k, G, r, l, n))) : ∀ c : Nat, ∀ g : Nat → Int → Int, dZ g → sMz g (nT g) < c → sEvs c g = G → zGo E (d + 6) M_X12_goes 0 0 Q 9 ([some (.ref 59), some (.int (iI (sNx g (nT g))))], [], zJ (k, g, r, l, n), 0, 0) := by
  have ok := ok_X12_goes
  intro c
  induction c with
  | zero =>
    intro g hd g1 g2
    have n0 := hd.1.1.1
    have e9 : (nT g : Int) = 3 * g 60 0 := by unfold nT; omega
    have ge := sMz_ge (h := g) (nT g) (fun y y0 y1 => (hd.2 y y0 (by omega)).1.2)
    omega
  | succ c ih =>
    intro g hd g1 g2
    have i := sNx_in g (nT g)
    have n0 := hd.1.1.1
    have n1 := hd.1.1.2.1
    have e9 : (nT g : Int) = 3 * g 60 0 := by unfold nT; omega
    have em : sEvs (c + 1) g = if sNx g (nT g) < 0 then g else sEvs c (sStop (sNx g (nT g)) g) := rfl
    have st := fun a b q => dZ_stop hd (x := sNx g (nT g)) a b q
    have ge := sMz_ge (h := g) (nT g) (fun y y0 y1 => (hd.2 y y0 (by omega)).1.2)
    generalize sNx g (nT g) = x at *
    refine s_ldI1 ok rfl ?_
    refine s_if_lt ok rfl ⟨by omega, by omega⟩ (fun c10 => ?_) (fun c10 => ?_)
    · refine s_retV ok rfl (by rw [if_pos (by omega)] at em; rw [← em, g2]; exact hQ)
    · refine s_ldA0 ok rfl ?_
      refine s_ldI1 ok rfl ?_
      refine s_callVv ok rfl rfl rfl rfl rfl rfl (ct_stops (h := g) (by exact hd.1) (st (by omega) (by omega) (by omega)).1 (by omega) (by omega)) ?_
      obtain ⟨-, ht, hz⟩ := st (by omega) (by omega) (by omega)
      have q60 : sStop x g 60 = g 60 := ht.1 60 (by omega) (by omega)
      have mm := sMz_st (h := g) (g := sStop x g) (x := x) (by omega) ht.2.2.2.1 (fun y hy => ht.2.2.1 63 y (by omega) (by omega) hy) (nT g)
      have qn : nT (sStop x g) = nT g := by unfold nT; rw [q60]
      refine s_ldA0 ok rfl ?_
      refine s_callV ok rfl rfl rfl rfl rfl rfl (ct_nx hz) ?_
      refine s_stI1 ok rfl rfl ?_
      refine s_goto ok rfl ?_
      rw [if_neg (by omega)] at em
      rw [if_pos (by omega)] at mm
      exact ih _ hz (by rw [qn]; omega) (by rw [← em]; exact g2)
theorem ct_goes {E : zE} {d : Nat} {k : Nat → Nat × Nat} {h : Nat → Int → Int} {r : Nat → Int → Option Nat} {l : Nat → Nat → Int64} {n : Nat} (hd : dP h) (h2 : zb (h 59 18)) : zCT E (d + 6) M_X12_goes [.ref 59] (zJ (k, h, r, l, n)) 0 0 (zU (zJ (k, sGoes h, r, l, n))) := by
  have ok := ok_X12_goes
  refine zCT_of pn_X12_goes (Nat.le_of_ble_eq_true rfl) ?_
  show zGo _ _ _ _ _ _ 0 ([some (.ref 59), none], [], _, _, _)
  obtain ⟨hz, fr⟩ := dZ_beg hd
  have n0 := hz.1.1.1
  have n1 := hz.1.1.2.1
  have e9 : (nT (sBeg h) : Int) = 3 * sBeg h 60 0 := by unfold nT; omega
  have ml := sMz_le (h := sBeg h) (nT (sBeg h)) (fun y y0 y1 => (hz.2 y y0 (by omega)).1.1)
  refine s_ldA0 ok rfl ?_
  refine s_callVv ok rfl rfl rfl rfl rfl rfl (ct_begins (by exact hd.1) (by exact h2)) ?_
  refine s_ldA0 ok rfl ?_
  refine s_callV ok rfl rfl rfl rfl rfl rfl (ct_nx hz) ?_
  refine s_stI1 ok rfl rfl ?_
  exact lp_goes (h := h) (Q := zU (zJ (k, sGoes h, r, l, n))) (G := sGoes h) ⟨rfl, rfl⟩ 61 (sBeg h) hz (by omega) rfl
theorem sGoes_ok {h : Nat → Int → Int} (hd : dP h) : dZ (sGoes h) ∧ (∀ n, n < 63 ∨ 75 < n → ¬ n = 59 → sGoes h n = h n) ∧ (∀ j, ¬ j = 19 → sGoes h 59 j = h 59 j) := by
  obtain ⟨hz, fr⟩ := dZ_beg hd
  obtain ⟨i1, i2, i3⟩ := sEvs_ok 61 hz
  exact ⟨i1, fun n h1 h2 => (i2 n h1 h2).trans (fr n h1), fun j hj => (i3 j hj).trans (by rw [fr 59 (by omega)])⟩
