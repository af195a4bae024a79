/-! drawn, mornings -/
/-- the seed's bits but the sign; the number drawn with the seed s; the seed after c draws -/
def sdB (s : Int) : Int := (iI s &&& iI 2147483647).toInt
def sdD (s : Int) : Int := sdB s / 65536 % 10
def sdN (s : Int) : Int := s * 1103515245 + 12345
def mS (z : Int) : Nat → Int
  | 0 => z
  | c + 1 => sdN (mS z c)
theorem sdB_in (s : Int) : 0 ≤ sdB s ∧ zb (sdB s) := by
  have h : 0 ≤ sdB s := by
    show 0 ≤ ((iI s).toBitVec &&& (iI 2147483647).toBitVec).toInt
    apply BitVec.toInt_nonneg_of_msb_false
    rw [BitVec.msb_and]
    have : (iI 2147483647).toBitVec.msb = false := by decide +kernel
    rw [this, Bool.and_false]
  exact ⟨h, zb_of _⟩
theorem sdB_is (s : Int) : (iI s &&& iI 2147483647) = iI (sdB s) := (iI_of _).symm
theorem sdD_in (s : Int) : 0 ≤ sdD s ∧ sdD s < 10 := by
  unfold sdD
  omega
theorem ct_drawn {E : zE} {d : Nat} {k : Nat → Nat × Nat} {h : Nat → Int → Int} {r : Nat → Int → Option Nat} {l : Nat → Nat → Int64} {n : Nat}  : zCT E d M_X12_drawn [.ref 59, .int (iI (10))] (zJ (k, h, r, l, n)) 0 0 (zV (.int (iI (sdD (sdN (h 59 28))))) (zJ (k, zv h 59 28 (sdN (h 59 28)), r, l, n))) := by
  have ok := ok_X12_drawn
  refine zCT_of pn_X12_drawn (Nat.le_of_ble_eq_true rfl) ?_
  show zGo _ _ _ _ _ _ 0 ([some (.ref 59), some (.int (iI (10)))], [], _, _, _)
  refine s_ldA0 ok rfl ?_
  refine s_ldA0 ok rfl ?_
  refine s_getJ 28 ok rfl rfl rfl rfl ?_
  refine s_ci ok rfl ?_
  refine s_mul ok rfl ?_
  refine s_ci ok rfl ?_
  refine s_add ok rfl ?_
  rw [show h 59 28 * 1103515245 + 12345 = sdN (h 59 28) from rfl]
  refine s_putJ 28 ok rfl rfl rfl rfl (fun q => by cases q) ?_
  refine s_ldA0 ok rfl ?_
  refine s_getJ 28 ok rfl rfl rfl rfl ?_
  rw [show zv h 59 28 (sdN (h 59 28)) 59 28 = sdN (h 59 28) from zv_is]
  obtain ⟨b0, b1⟩ := sdB_in (sdN (h 59 28))
  refine s_ci ok rfl ?_
  refine s_bin ok rfl (sdB_is _) ?_
  refine s_ci ok rfl ?_
  refine s_div ok rfl b1 ⟨by omega, by omega⟩ (by omega) (by omega) ?_
  refine s_ldI1 ok rfl ?_
  refine s_rem ok rfl (by unfold zb at *; omega) ⟨by omega, by omega⟩ (by omega) (by omega) ?_
  refine s_retI ok rfl ⟨rfl, rfl⟩
/-- the plan of a morning: from the seed after c draws on -/
def pMo (p : Int → Int) (z : Int) (c : Nat) : Int → Int := fun j => if 23 ≤ j ∧ j % 5 = 3 ∧ (j - 23) / 5 < p 6 then p j + sdD (mS z (c + ((j - 23) / 5).toNat + 1)) else p j
def mMo (p : Int → Int) (w dd z : Int) : Nat → Int
  | 0 => 0
  | c + 1 => mMo p w dd z c + dMn (pMo p z (c * (p 6).toNat)) w dd
theorem pMo_ok {p : Int → Int} (hp : pOK p) (hb : ∀ s : Int, 0 ≤ s → s < 8 → pBa p s ≤ 300) (z : Int) (c : Nat) : pOK (pMo p z c) := by
  have e : ∀ i, ¬ (23 ≤ i ∧ i % 5 = 3) → pMo p z c i = p i := fun i hi => if_neg (fun q => hi ⟨q.1, q.2.1⟩)
  obtain ⟨a0, a1, a2, a3, a4, a5, a6, a7, a8, a9, b0, b1, b2, b3, c1, c2, c3⟩ := hp
  refine ⟨?_, ?_, ?_, ?_, ?_, ?_, ?_, ?_, ?_, ?_, ?_, ?_, ?_, ?_, fun i i0 i1 => ?_, fun i i0 i1 => ?_, fun s s0 s1 => ?_⟩
  iterate 14 (rw [e _ (by omega)]; assumption)
  · rw [e _ (by omega)]
    exact c1 i i0 i1
  · rw [e _ (by omega), e _ (by omega)]
    exact c2 i i0 i1
  · obtain ⟨f1, f2, f3, f4, f5⟩ := c3 s s0 s1
    have hb := hb s s0 s1
    unfold pK pF pFr pTo pBa at *
    rw [e (19 + 5 * s) (by omega), e (19 + 5 * s + 1) (by omega), e (19 + 5 * s + 2) (by omega), e (19 + 5 * s + 3) (by omega)]
    refine ⟨f1, f2, f3, f4, ?_⟩
    unfold pMo
    split
    · have := sdD_in (mS z (c + ((19 + 5 * s + 4 - 23) / 5).toNat + 1))
      omega
    · exact f5
/-- what stands while the mornings are gone through -/
def dMo (h g : Nat → Int → Int) : Prop := (∀ n, n < 63 ∨ 79 < n → ¬ n = 59 → ¬ n = 60 → g n = h n) ∧ (∀ j, ¬ (j = 19 ∨ j = 24 ∨ j = 25 ∨ j = 28) → g 59 j = h 59 j) ∧ (∀ j, ¬ (23 ≤ j ∧ j % 5 = 3 ∧ (j - 23) / 5 < h 60 6) → g 60 j = h 60 j) ∧ ((∀ j, zb (g 69 j)) ∧ (∀ j, zb (g 71 j)) ∧ (∀ p, 0 ≤ p → p < 8 → 0 ≤ g 72 p ∧ g 72 p < 4096) ∧ zb (g 59 17)) ∧ (∀ t : Int, 0 ≤ t → t < h 60 6 → g 79 t = pBa (h 60) t)
theorem dMo_60 {h g : Nat → Int → Int} {j v : Int} {t : Int} (f : dMo h g) (t0 : 0 ≤ t) (t1 : t < h 60 6) (hj : j = 23 + 5 * t) : dMo h (zv g 60 j v) := by
  refine ⟨fun m h1 h2 h3 => ?_, fun i hi => f.2.1 i hi, fun i hi => ?_, f.2.2.2.1, f.2.2.2.2⟩
  · rw [zv_other h3]
    exact f.1 m h1 h2 h3
  · rw [zv_at (by omega)]
    exact f.2.2.1 i hi
theorem dMo_28 {h g : Nat → Int → Int} {v : Int} (f : dMo h g) : dMo h (zv g 59 28 v) := by
  refine ⟨fun m h1 h2 h3 => ?_, fun i hi => ?_, f.2.2.1, ⟨f.2.2.2.1.1, f.2.2.2.1.2.1, f.2.2.2.1.2.2.1, ?_⟩, f.2.2.2.2⟩
  · rw [zv_other h2]
    exact f.1 m h1 h2 h3
  · rw [zv_at (by omega)]
    exact f.2.1 i hi
  · rw [zv_at (by omega)]
    exact f.2.2.2.1.2.2.2
theorem dMo_E {h g g2 : Nat → Int → Int} (f : dMo h g) (e : dE g g2) : dMo h g2 := by
  refine ⟨fun m h1 h2 h3 => ?_, fun i hi => ?_, fun i hi => ?_, e.2.2.2, fun t t0 t1 => ?_⟩
  · by_cases q : 79 < m ∨ m < 63
    · rw [e.1 m (by omega) h2]
      exact f.1 m h1 h2 h3
    · omega
  · rw [e.2.1 i (by omega)]
    exact f.2.1 i hi
  · rw [e.e60]
    exact f.2.2.1 i hi
  · rw [e.1 79 (by omega) (by omega)]
    exact f.2.2.2.2 t t0 t1
theorem dMo_p {h g : Nat → Int → Int} {z : Int} {c : Nat} (f : dMo h g) (hb : ∀ t : Int, 0 ≤ t → t < h 60 6 → g 60 (23 + 5 * t) = pBa (h 60) t + sdD (mS z (c + t.toNat + 1))) : g 60 = pMo (h 60) z c := by
  funext j
  unfold pMo
  by_cases q : 23 ≤ j ∧ j % 5 = 3 ∧ (j - 23) / 5 < h 60 6
  · rw [if_pos q]
    have z9 := hb ((j - 23) / 5) (by omega) q.2.2
    unfold pBa at z9
    rw [show 23 + 5 * ((j - 23) / 5) = j by omega, show 19 + 5 * ((j - 23) / 5) + 4 = j by omega] at z9
    exact z9
  · rw [if_neg q]
    exact f.2.2.1 j q
theorem dMo_end {h g : Nat → Int → Int} (hd : dP h) (f : dMo h g) (hb : ∀ t : Int, 0 ≤ t → t < h 60 6 → g 60 (23 + 5 * t) = pBa (h 60) t) : dL h g := by
  have e60 : g 60 = h 60 := by
    funext j
    by_cases q : 23 ≤ j ∧ j % 5 = 3 ∧ (j - 23) / 5 < h 60 6
    · have z9 := hb ((j - 23) / 5) (by omega) q.2.2
      unfold pBa at z9
      rw [show 23 + 5 * ((j - 23) / 5) = j by omega, show 19 + 5 * ((j - 23) / 5) + 4 = j by omega] at z9
      exact z9
    · exact f.2.2.1 j q
  refine ⟨fun m h1 h2 => ?_, f.2.1, ?_, f.2.2.2.1⟩
  · by_cases c : m = 60
    · rw [c, e60]
    · exact f.1 m h1 h2 c
  · rw [e60]
    exact hd.1
theorem lp_mo1 {E : zE} {d : Nat} {k : Nat → Nat × Nat} {h : Nat → Int → Int} {r : Nat → Int → Option Nat} {l : Nat → Nat → Int64} {n : Nat} {Q : zQ} {a z b : Int} {np : Nat} (hn : h 60 6 = (np : Int)) (n8 : np ≤ 8) (hX : ∀ g, (∀ m, ¬ m = 79 → g m = h m) → (∀ t : Int, 0 ≤ t → t < np → g 79 t = pBa (h 60) t) → ∀ u, zGo E (d + 8) M_X12_mornings 0 0 Q 63 ([some (.ref 59), some (.int (iI (a))), some (.int (iI (z))), some (.int (iI (b))), some (.int (iI (0))), some (.int (iI (u))), none], [], zJ (k, g, r, l, n), 0, 0)) : ∀ c : Nat, ∀ (m : Nat) (g : Nat → Int → Int), (∀ m, ¬ m = 79 → g m = h m) → (∀ t : Int, 0 ≤ t → t < m → g 79 t = pBa (h 60) t) → np < m + c → m ≤ np → zGo E (d + 8) M_X12_mornings 0 0 Q 32 ([some (.ref 59), some (.int (iI (a))), some (.int (iI (z))), some (.int (iI (b))), some (.int (iI (0))), some (.int (iI ((m : Int)))), none], [], zJ (k, g, r, l, n), 0, 0) := by
  have ok := ok_X12_mornings
  intro c
  induction c with
  | zero =>
    intros
    omega
  | succ c ih =>
    intro m g f tb g1 g2
    have e60 : g 60 = h 60 := f 60 (by omega)
    refine s_ldI5 ok rfl ?_
    refine s_ldA0 ok rfl ?_
    refine s_getF ok rfl rfl rfl rfl ?_
    refine s_ci ok rfl ?_
    refine s_iald ok rfl (by exact rfl) (by exact rfl) (by omega) (by omega) ?_
    rw [e60]
    refine s_c_ge ok rfl ⟨by omega, by omega⟩ ⟨by omega, by omega⟩ (fun c41 => ?_) (fun c41 => ?_)
    · exact hX g f (fun t t0 t1 => tb t t0 (by omega)) _
    · refine s_ldA0 ok rfl ?_
      refine s_getF ok rfl rfl rfl rfl ?_
      refine s_ldI5 ok rfl ?_
      refine s_ldA0 ok rfl ?_
      refine s_ldI5 ok rfl ?_
      refine s_callV ok rfl rfl rfl rfl rfl rfl (ct_baseOf (t := (m : Int)) (by omega) (by omega)) ?_
      rw [e60]
      refine s_iast ok rfl (by exact rfl) (by exact rfl) (by omega) (by omega) (fun q => by cases q) ?_
      refine s_inc5 ok rfl rfl ?_
      refine s_goto ok rfl ?_
      refine ih (m + 1) _ (fun q hq => (zv_other hq).trans (f q hq)) (fun t t0 t1 => ?_) (by omega) (by omega)
      by_cases e : t = m
      · rw [e, zv_is]
      · rw [zv_at e]
        exact tb t t0 (by omega)
theorem lp_mo2 {E : zE} {d : Nat} {k : Nat → Nat × Nat} {h : Nat → Int → Int} {r : Nat → Int → Option Nat} {l : Nat → Nat → Int64} {n : Nat} {Q : zQ} {a z b y q : Int} {c0 np : Nat} (hn : h 60 6 = (np : Int)) (n8 : np ≤ 8) (hX : ∀ g, dMo h g → g 60 = pMo (h 60) z c0 → g 59 28 = mS z (c0 + np) → ∀ u, zGo E (d + 8) M_X12_mornings 0 0 Q 121 ([some (.ref 59), some (.int (iI (a))), some (.int (iI (z))), some (.int (iI (b))), some (.int (iI (y))), some (.int (iI (q))), some (.int (iI (u)))], [], zJ (k, g, r, l, n), 0, 0)) : ∀ c : Nat, ∀ (m : Nat) (g : Nat → Int → Int), dMo h g → (∀ t : Int, 0 ≤ t → t < m → g 60 (23 + 5 * t) = pBa (h 60) t + sdD (mS z (c0 + t.toNat + 1))) → g 59 28 = mS z (c0 + m) → np < m + c → m ≤ np → zGo E (d + 8) M_X12_mornings 0 0 Q 75 ([some (.ref 59), some (.int (iI (a))), some (.int (iI (z))), some (.int (iI (b))), some (.int (iI (y))), some (.int (iI (q))), some (.int (iI ((m : Int))))], [], zJ (k, g, r, l, n), 0, 0) := by
  have ok := ok_X12_mornings
  intro c
  induction c with
  | zero =>
    intros
    omega
  | succ c ih =>
    intro m g f tb ts g1 g2
    have e6 : g 60 6 = h 60 6 := f.2.2.1 6 (by omega)
    refine s_ldI6 ok rfl ?_
    refine s_ldA0 ok rfl ?_
    refine s_getF ok rfl rfl rfl rfl ?_
    refine s_ci ok rfl ?_
    refine s_iald ok rfl (by exact rfl) (by exact rfl) (by omega) (by omega) ?_
    rw [e6]
    refine s_c_ge ok rfl ⟨by omega, by omega⟩ ⟨by omega, by omega⟩ (fun c84 => ?_) (fun c84 => ?_)
    · have em : m = np := by omega
      subst em
      exact hX g f (dMo_p f (fun t t0 t1 => tb t t0 (by omega))) ts _
    · refine s_ldA0 ok rfl ?_
      refine s_getF ok rfl rfl rfl rfl ?_
      refine s_ci ok rfl ?_
      refine s_ci ok rfl ?_
      refine s_ldI6 ok rfl ?_
      refine s_mul ok rfl ?_
      refine s_add ok rfl ?_
      refine s_ci ok rfl ?_
      refine s_add ok rfl ?_
      refine s_ldA0 ok rfl ?_
      refine s_getF ok rfl rfl rfl rfl ?_
      refine s_ldI6 ok rfl ?_
      refine s_iald ok rfl (by exact rfl) (by exact rfl) (by omega) (by omega) ?_
      rw [f.2.2.2.2 m (by omega) (by omega)]
      refine s_ldA0 ok rfl ?_
      refine s_ci ok rfl ?_
      refine s_callV ok rfl rfl rfl rfl rfl rfl (ct_drawn) ?_
      rw [ts, show sdN (mS z (c0 + m)) = mS z (c0 + (m + 1)) from rfl]
      refine s_add ok rfl ?_
      refine s_iast ok rfl (by exact rfl) (by exact rfl) (by omega) (by omega) (fun q => by cases q) ?_
      refine s_inc6 ok rfl rfl ?_
      refine s_goto ok rfl ?_
      refine ih (m + 1) _ (dMo_60 (t := (m : Int)) (dMo_28 f) (by omega) (by omega) (by omega)) (fun t t0 t1 => ?_) ?_ (by omega) (by omega)
      · by_cases e : t = m
        · rw [e, show 23 + 5 * (m : Int) = 19 + 5 * (m : Int) + 4 by omega, zv_is, show ((m : Int)).toNat = m by omega]
          rfl
        · rw [zv_at (by omega), zv_other (by omega)]
          exact tb t t0 (by omega)
      · rw [zv_other (by omega), zv_is]
theorem lp_mo3 {E : zE} {d : Nat} {k : Nat → Nat × Nat} {h : Nat → Int → Int} {r : Nat → Int → Option Nat} {l : Nat → Nat → Int64} {n : Nat} {Q : zQ} {p : Int → Int} {w dd : Int} (ep : h 60 = p) (ew : h 59 17 = w) (ed : h 59 18 = dd) (hd : dP h) (h2 : zb dd) {a z b : Int} {na np : Nat} (hn : h 60 6 = (np : Int)) (n8 : np ≤ 8) (ha : a = (na : Int)) (a20 : na ≤ 20) (hb : ∀ s : Int, 0 ≤ s → s < 8 → pBa p s ≤ 300) (hX : ∀ g, dMo h g → ∀ u v, znl v = true → zGo E (d + 8) M_X12_mornings 0 0 Q 136 ([some (.ref 59), some (.int (iI (a))), some (.int (iI (z))), some (.int (iI (b))), some (.int (iI (mMo p w dd z na))), some (.int (iI (u))), v], [], zJ (k, g, r, l, n), 0, 0)) : ∀ c : Nat, ∀ (m : Nat) (g : Nat → Int → Int) (v : Option Value), znl v = true → dMo h g → g 59 28 = mS z (m * np) → na < m + c → m ≤ na → zGo E (d + 8) M_X12_mornings 0 0 Q 66 ([some (.ref 59), some (.int (iI (a))), some (.int (iI (z))), some (.int (iI (b))), some (.int (iI (mMo p w dd z m))), some (.int (iI ((m : Int)))), v], [], zJ (k, g, r, l, n), 0, 0) := by
  have ok := ok_X12_mornings
  intro c
  induction c with
  | zero =>
    intros
    omega
  | succ c ih =>
    intro m g v hv f ts g1 g2
    subst ep
    subst ew
    subst ed
    refine s_ldI5 ok rfl ?_
    refine s_ldI1 ok rfl ?_
    refine s_c_ge ok rfl ⟨by omega, by omega⟩ ⟨by omega, by omega⟩ (fun c69 => ?_) (fun c69 => ?_)
    · have em : m = na := by omega
      subst em
      exact hX g f _ v hv
    · refine s_ci ok rfl ?_
      refine s_stI6 ok rfl rfl ?_
      refine lp_mo2 (E := E) (d := d) (k := k) (r := r) (l := l) (n := n) (h := h) (z := z) (c0 := m * np) hn n8 (fun g9 f9 p9 s9 u9 => ?_) (np + 1) 0 g f (fun t t0 t1 => by omega) (by exact ts) (by omega) (by omega)
      have pO := pMo_ok hd.1 hb z (m * np)
      have hd9 : dP g9 := ⟨by rw [p9]; exact pO, f9.2.2.2.1⟩
      have e17 : g9 59 17 = h 59 17 := f9.2.1 17 (by omega)
      have e18 : g9 59 18 = h 59 18 := f9.2.1 18 (by omega)
      refine s_ldI4 ok rfl ?_
      refine s_ldA0 ok rfl ?_
      refine s_callVx ok rfl rfl rfl rfl rfl rfl (ct_manyNow (h := g9) p9 e17 e18 hd9 h2) (fun σ124 hσ124 => ?_)
      obtain ⟨g124, rfl, hg124⟩ := hσ124
      obtain ⟨f124, -⟩ := hg124
      refine s_add ok rfl ?_
      rw [show mMo (h 60) (h 59 17) (h 59 18) z m + dMn (pMo (h 60) z (m * np)) (h 59 17) (h 59 18) = mMo (h 60) (h 59 17) (h 59 18) z (m + 1) from (by have z9 : mMo (h 60) (h 59 17) (h 59 18) z (m + 1) = mMo (h 60) (h 59 17) (h 59 18) z m + dMn (pMo (h 60) z (m * (h 60 6).toNat)) (h 59 17) (h 59 18) := rfl; rw [z9, hn]; rfl)]
      refine s_stI4 ok rfl rfl ?_
      refine s_inc5 ok rfl rfl ?_
      refine s_goto ok rfl ?_
      refine ih (m + 1) _ _ rfl (dMo_E f9 f124) ?_ (by omega) (by omega)
      rw [f124.2.1 28 (by omega), s9, Nat.add_mul, Nat.one_mul]
theorem lp_mo4 {E : zE} {d : Nat} {k : Nat → Nat × Nat} {h : Nat → Int → Int} {r : Nat → Int → Option Nat} {l : Nat → Nat → Int64} {n : Nat} {Q : zQ} {a z b y : Int} {v : Option Value} {np : Nat} (hd : dP h) (hn : h 60 6 = (np : Int)) (n8 : np ≤ 8) (hX : ∀ g, dL h g → ∀ u, zGo E (d + 8) M_X12_mornings 0 0 Q 178 ([some (.ref 59), some (.int (iI (a))), some (.int (iI (z))), some (.int (iI (b))), some (.int (iI (y))), some (.int (iI (u))), v], [], zJ (k, g, r, l, n), 0, 0)) : ∀ c : Nat, ∀ (m : Nat) (g : Nat → Int → Int), dMo h g → (∀ t : Int, 0 ≤ t → t < m → g 60 (23 + 5 * t) = pBa (h 60) t) → np < m + c → m ≤ np → zGo E (d + 8) M_X12_mornings 0 0 Q 139 ([some (.ref 59), some (.int (iI (a))), some (.int (iI (z))), some (.int (iI (b))), some (.int (iI (y))), some (.int (iI ((m : Int)))), v], [], zJ (k, g, r, l, n), 0, 0) := by
  have ok := ok_X12_mornings
  intro c
  induction c with
  | zero =>
    intros
    omega
  | succ c ih =>
    intro m g f tb g1 g2
    have e6 : g 60 6 = h 60 6 := f.2.2.1 6 (by omega)
    refine s_ldI5 ok rfl ?_
    refine s_ldA0 ok rfl ?_
    refine s_getF ok rfl rfl rfl rfl ?_
    refine s_ci ok rfl ?_
    refine s_iald ok rfl (by exact rfl) (by exact rfl) (by omega) (by omega) ?_
    rw [e6]
    refine s_c_ge ok rfl ⟨by omega, by omega⟩ ⟨by omega, by omega⟩ (fun c148 => ?_) (fun c148 => ?_)
    · have em : m = np := by omega
      subst em
      exact hX g (dMo_end hd f (fun t t0 t1 => tb t t0 (by omega))) _
    · refine s_ldA0 ok rfl ?_
      refine s_getF ok rfl rfl rfl rfl ?_
      refine s_ci ok rfl ?_
      refine s_ci ok rfl ?_
      refine s_ldI5 ok rfl ?_
      refine s_mul ok rfl ?_
      refine s_add ok rfl ?_
      refine s_ci ok rfl ?_
      refine s_add ok rfl ?_
      refine s_ldA0 ok rfl ?_
      refine s_getF ok rfl rfl rfl rfl ?_
      refine s_ldI5 ok rfl ?_
      refine s_iald ok rfl (by exact rfl) (by exact rfl) (by omega) (by omega) ?_
      rw [f.2.2.2.2 m (by omega) (by omega)]
      refine s_iast ok rfl (by exact rfl) (by exact rfl) (by omega) (by omega) (fun q => by cases q) ?_
      refine s_inc5 ok rfl rfl ?_
      refine s_goto ok rfl ?_
      refine ih (m + 1) _ (dMo_60 (t := (m : Int)) f (by omega) (by omega) (by omega)) (fun t t0 t1 => ?_) (by omega) (by omega)
      by_cases e : t = m
      · rw [e, show 23 + 5 * (m : Int) = 19 + 5 * (m : Int) + 4 by omega, zv_is]
      · rw [zv_at (by omega)]
        exact tb t t0 (by omega)
theorem mMo_in {p : Int → Int} {w dd z : Int} (hp : pOK p) (hb : ∀ s : Int, 0 ≤ s → s < 8 → pBa p s ≤ 300) : ∀ c : Nat, 0 ≤ mMo p w dd z c ∧ mMo p w dd z c ≤ 8 * c
  | 0 => ⟨Int.le_refl _, Int.le_refl _⟩
  | c + 1 => by
    have i := mMo_in (w := w) (dd := dd) (z := z) hp hb c
    have j := dMn_in (w := w) (dd := dd) (pMo_ok hp hb z (c * (p 6).toNat))
    have q : pMo p z (c * (p 6).toNat) 6 = p 6 := if_neg (by omega)
    have := hp.2.2.2.2.2.2.2.2.2.2.2.2.2.1
    unfold mMo
    omega
theorem ct_mornings {E : zE} {d : Nat} {k : Nat → Nat × Nat} {h : Nat → Int → Int} {r : Nat → Int → Option Nat} {l : Nat → Nat → Int64} {n : Nat} {p : Int → Int} {w dd : Int} (ep : h 60 = p) (ew : h 59 17 = w) (ed : h 59 18 = dd) (hd : dP h) (h2 : zb dd) {a z b : Int} (za : zb a) (z2 : zb b) (hb : ∀ s : Int, 0 ≤ s → s < 8 → pBa p s ≤ 300) : zCT E (d + 8) M_X12_mornings [.ref 59, .int (iI (a)), .int (iI (z)), .int (iI (b))] (zJ (k, h, r, l, n)) 0 0 (zVx (.int (iI (if (1 ≤ a ∧ a ≤ 20) ∧ (0 ≤ b ∧ b ≤ 1) then (if b = 0 then mMo p w dd z a.toNat else a * p 6 - mMo p w dd z a.toNat) else -1))) (zG k r l n (dL h))) := by
  have ok := ok_X12_mornings
  refine zCT_of pn_X12_mornings (Nat.le_of_ble_eq_true rfl) ?_
  show zGo _ _ _ _ _ _ 0 ([some (.ref 59), some (.int (iI (a))), some (.int (iI (z))), some (.int (iI (b))), none, none, none], [], _, _, _)
  subst ep
  subst ew
  subst ed
  refine s_ldI1 ok rfl ?_
  refine s_ci ok rfl ?_
  refine s_ci ok rfl ?_
  refine s_callS ok rfl rfl rfl rfl (ct_isIn za ⟨by omega, by omega⟩ ⟨by omega, by omega⟩) ?_
  refine s_if_eq ok rfl zif01 (fun c7 => ?_) (fun c7 => ?_)
  · refine s_ci ok rfl ?_
    refine s_retI ok rfl ⟨congrArg (fun z => some (Value.int (iI z))) (if_neg (fun q => by first | exact zif_f c16 q.2 | exact zif_f c7 q.1)).symm, _, rfl, dL.rf hd⟩
  · refine s_ldI3 ok rfl ?_
    refine s_ci ok rfl ?_
    refine s_ci ok rfl ?_
    refine s_callS ok rfl rfl rfl rfl (ct_isIn z2 ⟨by omega, by omega⟩ ⟨by omega, by omega⟩) ?_
    refine s_if_eq ok rfl zif01 (fun c16 => ?_) (fun c16 => ?_)
    · refine s_ci ok rfl ?_
      refine s_retI ok rfl ⟨congrArg (fun z => some (Value.int (iI z))) (if_neg (fun q => by first | exact zif_f c16 q.2 | exact zif_f c7 q.1)).symm, _, rfl, dL.rf hd⟩
    · refine s_ldA0 ok rfl ?_
      refine s_ldI2 ok rfl ?_
      refine s_putJ 28 ok rfl rfl rfl rfl (fun q => by cases q) ?_
      refine s_ci ok rfl ?_
      refine s_stI4 ok rfl rfl ?_
      refine s_ci ok rfl ?_
      refine s_stI5 ok rfl rfl ?_
      have ya := zif_t c7
      have yb := zif_t c16
      have p6 := hd.1.2.2.2.2.2.2.2.2.2.2.2.2.2.1
      have p6a := hd.1.2.2.2.2.2.2.2.2.2.2.2.2.1
      have mi := mMo_in (w := h 59 17) (dd := h 59 18) (z := z) hd.1 hb a.toNat
      refine lp_mo1 (E := E) (d := d) (k := k) (r := r) (l := l) (n := n) (h := zv h 59 28 z) (np := (h 60 6).toNat) (by show h 60 6 = _; omega) (by omega) (fun g f tb u => ?_) ((h 60 6).toNat + 1) 0 _ (fun q hq => rfl) (fun t t0 t1 => by omega) (by omega) (by omega)
      have f9 : dMo h g := by
        refine ⟨fun m h1 h3 h4 => ?_, fun i hi => ?_, fun i hi => ?_, ⟨?_, ?_, ?_, ?_⟩, fun t t0 t1 => tb t t0 (by omega)⟩
        · rw [f m (by omega), zv_other h3]
        · rw [f 59 (by omega), zv_at (by omega)]
        · rw [f 60 (by omega)]; rfl
        · rw [f 69 (by omega)]; exact hd.2.1
        · rw [f 71 (by omega)]; exact hd.2.2.1
        · rw [f 72 (by omega)]; exact hd.2.2.2.1
        · rw [f 59 (by omega), zv_at (by omega)]; exact hd.2.2.2.2
      have s9 : g 59 28 = mS z (0 * (h 60 6).toNat) := by
        rw [f 59 (by omega), zv_is, Nat.zero_mul]
        rfl
      refine s_ci ok rfl ?_
      refine s_stI5 ok rfl rfl ?_
      refine lp_mo3 (E := E) (d := d) (k := k) (r := r) (l := l) (n := n) (h := h) rfl rfl rfl hd h2 (a := a) (z := z) (b := b) (na := a.toNat) (np := (h 60 6).toNat) (by omega) (by omega) (by omega) (by omega) hb (fun g2 f2 u2 v2 hv2 => ?_) (a.toNat + 1) 0 g none rfl f9 s9 (by omega) (by omega)
      refine s_ci ok rfl ?_
      refine s_stI5 ok rfl rfl ?_
      refine lp_mo4 (E := E) (d := d) (k := k) (r := r) (l := l) (n := n) (h := h) (a := a) (z := z) (b := b) (np := (h 60 6).toNat) hd (by omega) (by omega) (fun g3 f3 u3 => ?_) ((h 60 6).toNat + 1) 0 g2 f2 (fun t t0 t1 => by omega) (by omega) (by omega)
      have e63 : g3 60 6 = h 60 6 := by rw [f3.e60]
      refine s_ldI3 ok rfl ?_
      refine s_if_eq ok rfl z2 (fun c179 => ?_) (fun c179 => ?_)
      · refine s_ldI4 ok rfl ?_
        refine s_goto ok rfl ?_
        refine s_retI ok rfl ⟨congrArg (fun z => some (Value.int (iI z))) ((if_pos (And.intro ya yb)).trans (by first | exact if_pos c179 | exact if_neg c179)).symm, _, rfl, f3⟩
      · refine s_ldI1 ok rfl ?_
        refine s_ldA0 ok rfl ?_
        refine s_getF ok rfl rfl rfl rfl ?_
        refine s_ci ok rfl ?_
        refine s_iald ok rfl (by exact rfl) (by exact rfl) (by omega) (by omega) ?_
        rw [e63]
        refine s_mul ok rfl ?_
        refine s_ldI4 ok rfl ?_
        refine s_sub ok rfl ?_
        refine s_retI ok rfl ⟨congrArg (fun z => some (Value.int (iI z))) ((if_pos (And.intro ya yb)).trans (by first | exact if_pos c179 | exact if_neg c179)).symm, _, rfl, f3⟩
