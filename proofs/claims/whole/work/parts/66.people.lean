/-! the trip: people -/
/-- what the trip holds of the people of a plan -/
def tC (p : Int → Int) (w : Int) (g : Nat → Int → Int) : Prop := g 37 6 = cnP p w ∧ (∀ t : Int, 0 ≤ t → t < cnP p w → g 38 t = pCm p (sg w t) ∧ g 39 t = kY p (sg w t) ∧ g 40 t = p 2 + pEx p (sg w t) ∧ g 41 t = pPl p (sg w t) ∧ g 42 t = pOf p (sg w t)) ∧ (rl (g 43) (cnP p w).toNat).map (sg w) = fL p w (p 6).toNat ∧ (∀ j : Int, 0 ≤ j → j < cnP p w → 0 ≤ g 43 j ∧ g 43 j < cnP p w)
def zpK (K : Int → Int) (a : Int → Int) (t : Int) : Nat → Nat
  | 0 => 0
  | n + 1 => if K t < K (a n) then zpK K a t n else n + 1
theorem zpK_le {K a : Int → Int} {t : Int} : ∀ n, zpK K a t n ≤ n
  | 0 => Nat.le_refl _
  | n + 1 => by
    unfold zpK
    split
    · have := zpK_le (K := K) (a := a) (t := t) n; omega
    · omega
theorem shA_q {h : Nat → Int → Int} {a : Int → Int} {q n j : Nat} (hj : j + 1 ≤ n) : zv (zar h q (shA a n (j + 1))) q ((j + 1 : Nat) : Int) (a j) = zar h q (shA a n j) := by
  rw [zar_zv]
  congr 1
  funext i
  unfold shA
  by_cases e : i = ((j + 1 : Nat) : Int)
  · rw [if_pos e, if_pos (by omega), e]
    congr 1
    omega
  · rw [if_neg e]
    by_cases c : ((j + 1 : Nat) : Int) < i ∧ i ≤ n
    · rw [if_pos c, if_pos (by omega)]
    · rw [if_neg c, if_neg (by omega)]
theorem rl_inK {a K K2 s : Int → Int} {t : Int} : ∀ n : Nat, (∀ j : Int, 0 ≤ j → j < n → (K t < K (a j) ↔ K2 (s t) < K2 (s (a j)))) → (rl (insA a n t (zpK K a t n)) (n + 1)).map s = inR K2 (s t) ((rl a n).map s)
  | 0, _ => rfl
  | n + 1, ha => by
    have i := rl_inK n (fun j j0 j1 => ha j j0 (by omega))
    have ex := ha n (by omega) (by omega)
    have le := zpK_le (K := K) (a := a) (t := t) n
    have ez : zpK K a t (n + 1) = if K t < K (a n) then zpK K a t n else n + 1 := rfl
    have er : inR K2 (s t) ((rl a (n + 1)).map s) = if K2 (s t) < K2 (s (a n)) then s (a n) :: inR K2 (s t) ((rl a n).map s) else s t :: (rl a (n + 1)).map s := rfl
    rw [er]
    by_cases w : K t < K (a n)
    · rw [ez, if_pos w, if_pos (ex.mp w), ← i]
      have e1 : insA a (n + 1) t (zpK K a t n) ((n + 1 : Nat) : Int) = a n := by
        unfold insA shA
        rw [if_neg (by omega), if_pos (by omega)]
        congr 1
        omega
      have e2 : rl (insA a (n + 1) t (zpK K a t n)) (n + 1) = rl (insA a n t (zpK K a t n)) (n + 1) := rl_cg _ fun j j0 j1 => by
        unfold insA
        by_cases c : j = (zpK K a t n : Int)
        · rw [if_pos c, if_pos c]
        · rw [if_neg c, if_neg c]
          unfold shA
          by_cases d : ((zpK K a t n : Nat) : Int) < j ∧ j ≤ (n : Int)
          · rw [if_pos d, if_pos (by omega)]
          · rw [if_neg d, if_neg (by omega)]
      show (insA a (n + 1) t (zpK K a t n) ((n + 1 : Nat) : Int) :: rl (insA a (n + 1) t (zpK K a t n)) (n + 1)).map s = _
      rw [e1, e2]
      rfl
    · rw [ez, if_neg w, if_neg (fun z => w (ex.mpr z))]
      have e1 : insA a (n + 1) t (n + 1) ((n + 1 : Nat) : Int) = t := by
        unfold insA
        rw [if_pos rfl]
      have e2 : rl (insA a (n + 1) t (n + 1)) (n + 1) = rl a (n + 1) := rl_cg _ fun j j0 j1 => by
        unfold insA shA
        rw [if_neg (by omega), if_neg (by omega)]
      show (insA a (n + 1) t (n + 1) ((n + 1 : Nat) : Int) :: rl (insA a (n + 1) t (n + 1)) (n + 1)).map s = _
      rw [e1, e2]
      rfl
theorem lp_line {E : zE} {d : Nat} {k : Nat → Nat × Nat} {h : Nat → Int → Int} {r : Nat → Int → Option Nat} {l : Nat → Nat → Int64} {n : Nat} {Q : zQ} {t : Nat} (t8 : t < 8) (hz : ∀ j : Int, 0 ≤ j → j ≤ t → zb (h 39 j)) (ha : ∀ j : Int, 0 ≤ j → j < (t : Int) → 0 ≤ h 43 j ∧ h 43 j < (t : Int)) (hX : zGo E d M_X9_line 0 0 Q 48 ([some (.ref 37), some (.int (iI ((t : Int)))), some (.int (iI (((zpK (h 39) (h 43) (t : Int) t : Nat) : Int))))], [], zJ (k, zar h 43 (shA (h 43) t (zpK (h 39) (h 43) (t : Int) t)), r, l, n), 0, 0)) : ∀ c : Nat, ∀ k9 : Nat, k9 < c → k9 ≤ t → zpK (h 39) (h 43) (t : Int) k9 = zpK (h 39) (h 43) (t : Int) t → zGo E d M_X9_line 0 0 Q 2 ([some (.ref 37), some (.int (iI ((t : Int)))), some (.int (iI ((k9 : Int))))], [], zJ (k, zar h 43 (shA (h 43) t k9), r, l, n), 0, 0) := by
  have ok := ok_X9_line
  intro c
  induction c with
  | zero =>
    intros
    omega
  | succ c ih =>
    intro k9 g1 g2 hz9
    have e39 : zar h 43 (shA (h 43) t k9) 39 = h 39 := zar_other (by omega)
    have e43 : zar h 43 (shA (h 43) t k9) 43 = shA (h 43) t k9 := zar_at
    refine s_ldI2 ok rfl ?_
    refine s_if_le ok rfl ⟨by omega, by omega⟩ (fun c3 => ?_) (fun c3 => ?_)
    · first
        | (rw [if_neg (by omega)] at ez
           rw [← hz9, ez] at hX
           exact hX)
        | (have e0 : k9 = 0 := by omega
           subst e0
           have ez0 : zpK (h 39) (h 43) (t : Int) 0 = 0 := rfl
           rw [← hz9, ez0] at hX
           exact hX)
    · obtain ⟨k8, rfl⟩ : ∃ k8, k9 = k8 + 1 := ⟨k9 - 1, by omega⟩
      obtain ⟨b0, b1⟩ := ha k8 (by omega) (by omega)
      have es : shA (h 43) t (k8 + 1) (k8 : Int) = h 43 k8 := if_neg (by omega)
      have ez : zpK (h 39) (h 43) (t : Int) (k8 + 1) = if h 39 t < h 39 (h 43 k8) then zpK (h 39) (h 43) (t : Int) k8 else k8 + 1 := rfl
      refine s_ldA0 ok rfl ?_
      refine s_getF ok rfl rfl rfl rfl ?_
      refine s_ldI1 ok rfl ?_
      refine s_iald ok rfl (by exact rfl) (by exact rfl) (by omega) (by omega) ?_
      rw [e39]
      refine s_ldA0 ok rfl ?_
      refine s_getF ok rfl rfl rfl rfl ?_
      refine s_ldA0 ok rfl ?_
      refine s_getF ok rfl rfl rfl rfl ?_
      refine s_ldI2 ok rfl ?_
      refine s_ci ok rfl ?_
      refine s_sub ok rfl ?_
      rw [show ((k8 + 1 : Nat) : Int) - 1 = (k8 : Int) by omega]
      refine s_iald ok rfl (by exact rfl) (by exact rfl) (by omega) (by omega) ?_
      rw [e43, es]
      refine s_iald ok rfl (by exact rfl) (by exact rfl) (by omega) (by omega) ?_
      rw [e39]
      refine s_c_ge ok rfl (hz _ (by omega) (by omega)) (hz _ b0 (by omega)) (fun c25 => ?_) (fun c25 => ?_)
      · first
          | (rw [if_neg (by omega)] at ez
             rw [← hz9, ez] at hX
             exact hX)
          | (have e0 : k9 = 0 := by omega
             subst e0
             have ez0 : zpK (h 39) (h 43) (t : Int) 0 = 0 := rfl
             rw [← hz9, ez0] at hX
             exact hX)
      · refine s_ldA0 ok rfl ?_
        refine s_getF ok rfl rfl rfl rfl ?_
        refine s_ldI2 ok rfl ?_
        refine s_ldA0 ok rfl ?_
        refine s_getF ok rfl rfl rfl rfl ?_
        refine s_ldI2 ok rfl ?_
        refine s_ci ok rfl ?_
        refine s_sub ok rfl ?_
        rw [show ((k8 + 1 : Nat) : Int) - 1 = (k8 : Int) by omega]
        refine s_iald ok rfl (by exact rfl) (by exact rfl) (by omega) (by omega) ?_
        rw [e43, es]
        refine s_iast ok rfl (by exact rfl) (by exact rfl) (by omega) (by omega) (fun q => by cases q) ?_
        rw [shA_q (by omega)]
        refine s_inc2 ok rfl rfl ?_
        refine s_goto ok rfl ?_
        rw [if_pos (by omega)] at ez
        rw [show ((k8 + 1 : Nat) : Int) + -1 = (k8 : Int) by omega]
        exact ih k8 (by omega) (by omega) (ez.symm.trans hz9)
theorem ct_line {E : zE} {d : Nat} {k : Nat → Nat × Nat} {h : Nat → Int → Int} {r : Nat → Int → Option Nat} {l : Nat → Nat → Int64} {n : Nat} {t : Nat} (t8 : t < 8) (hz : ∀ j : Int, 0 ≤ j → j ≤ t → zb (h 39 j)) (ha : ∀ j : Int, 0 ≤ j → j < (t : Int) → 0 ≤ h 43 j ∧ h 43 j < (t : Int)) : zCT E d M_X9_line [.ref 37, .int (iI ((t : Int)))] (zJ (k, h, r, l, n)) 0 0 (zU (zJ (k, zar h 43 (insA (h 43) t t (zpK (h 39) (h 43) (t : Int) t)), r, l, n))) := by
  have ok := ok_X9_line
  refine zCT_of pn_X9_line (Nat.le_of_ble_eq_true rfl) ?_
  show zGo _ _ _ _ _ _ 0 ([some (.ref 37), some (.int (iI ((t : Int)))), none], [], _, _, _)
  refine s_ldI1 ok rfl ?_
  refine s_stI2 ok rfl rfl ?_
  have le := zpK_le (K := h 39) (a := h 43) (t := (t : Int)) t
  refine zgo_eq ?_ (lp_line (E := E) (d := d) (k := k) (r := r) (l := l) (n := n) (h := h) (Q := zU (zJ (k, zar h 43 (insA (h 43) t t (zpK (h 39) (h 43) (t : Int) t)), r, l, n))) t8 hz ha ?_ (t + 1) t (by omega) (by omega) rfl)
  · have e0 : zar h 43 (shA (h 43) t t) = h := by
      have : shA (h 43) t t = h 43 := by
        funext j
        exact if_neg (by omega)
      rw [this, zar_self]
    rw [e0]
  refine s_ldA0 ok rfl ?_
  refine s_getF ok rfl rfl rfl rfl ?_
  refine s_ldI2 ok rfl ?_
  refine s_ldI1 ok rfl ?_
  refine s_iast ok rfl (by exact rfl) (by exact rfl) (by omega) (by omega) (fun q => by cases q) ?_
  refine s_retV ok rfl ⟨rfl, ?_⟩
  rw [zar_zv]
  rfl
/-- how many numbers the first m people take up -/
def cM (w : Int) (m : Nat) : Nat := if 0 ≤ w ∧ w < m then m + 1 else m
theorem fL_cM {p : Int → Int} {w : Int} (m : Nat) : fL p w (cM w (m + 1)) = inR (kY p) (sg w m) (fL p w (cM w m)) := by
  have f1 : ∀ c : Nat, fL p w (c + 1) = if (c : Int) = w then fL p w c else inR (kY p) c (fL p w c) := fun _ => rfl
  unfold cM sg
  by_cases a : 0 ≤ w ∧ w < (m : Int)
  · rw [if_pos a, if_pos (by omega), if_pos (by omega), f1, if_neg (by omega)]
    rfl
  · rw [if_neg a]
    by_cases b : w = m
    · rw [if_pos (by omega), if_pos (by omega), f1, if_neg (by omega), f1, if_pos b.symm]
      rfl
    · rw [if_neg (by omega), if_neg (by omega), f1, if_neg (by omega)]
theorem fL_end {p : Int → Int} {w : Int} (h0 : 0 ≤ p 6) : fL p w (cM w (cnP p w).toNat) = fL p w (p 6).toNat := by
  unfold cM cnP
  by_cases a : 0 ≤ w ∧ w < p 6
  · rw [if_pos a]
    by_cases b : w = p 6 - 1
    · rw [if_neg (by omega)]
      have e : (p 6).toNat = (p 6 - 1).toNat + 1 := by omega
      rw [e]
      show _ = if ((p 6 - 1).toNat : Int) = w then fL p w (p 6 - 1).toNat else _
      rw [if_pos (by omega)]
    · rw [if_pos (by omega)]
      congr 1
      omega
  · rw [if_neg a, if_neg (by omega)]
theorem sg_mono {w a b : Int} (a0 : 0 ≤ a) (h : a < b) : sg w a < sg w b := by
  unfold sg
  split <;> split <;> omega
theorem sg_lt {p : Int → Int} {w t : Int} (t0 : 0 ≤ t) (h : t < cnP p w) : 0 ≤ sg w t ∧ sg w t < p 6 ∧ ¬ sg w t = w := by
  unfold cnP at h
  unfold sg
  split at h <;> split <;> omega
theorem lp_setPeople4 {E : zE} {d : Nat} {k : Nat → Nat × Nat} {h : Nat → Int → Int} {r : Nat → Int → Option Nat} {l : Nat → Nat → Int64} {n : Nat} {Q : zQ} {p : Int → Int} {w : Int} (hp : pOK p) (hR : cR 4 5 6 7 8 9 10 11 12 13 k h r n p w) (hX : ∀ g u v, znl u = true → znl v = true → (∀ q : Nat, (q < 37 ∨ 48 < q ∨ q = 45 ∨ q = 46) → g q = h q) ∧ (∀ j, ¬ j = 6 → g 37 j = h 37 j) ∧ g 37 6 = cnP p w ∧ (∀ t : Int, 0 ≤ t → t < cnP p w → g 38 t = pCm p (sg w t) ∧ g 39 t = kY p (sg w t) ∧ g 40 t = p 2 + pEx p (sg w t) ∧ g 41 t = pPl p (sg w t) ∧ g 42 t = pOf p (sg w t) ∧ g 44 t = -1 ∧ g 47 t = 0 ∧ g 48 t = 0) ∧ (rl (g 43) (cnP p w).toNat).map (sg w) = fL p w (cM w (cnP p w).toNat) ∧ (∀ j : Int, 0 ≤ j → j < cnP p w → 0 ≤ g 43 j ∧ g 43 j < cnP p w) → zGo E (d + 6) M_X9_setPeople 0 0 Q 137 ([some (.ref 37), some (.ref 4), u, v], [], zJ (k, g, r, l, n), 0, 0)) : ∀ c : Nat, ∀ (m : Nat) (g : Nat → Int → Int) (v : Option Value), znl v = true → (∀ q : Nat, (q < 37 ∨ 48 < q ∨ q = 45 ∨ q = 46) → g q = h q) ∧ (∀ j, ¬ j = 6 → g 37 j = h 37 j) ∧ g 37 6 = cnP p w ∧ (∀ t : Int, 0 ≤ t → t < (m : Int) → g 38 t = pCm p (sg w t) ∧ g 39 t = kY p (sg w t) ∧ g 40 t = p 2 + pEx p (sg w t) ∧ g 41 t = pPl p (sg w t) ∧ g 42 t = pOf p (sg w t) ∧ g 44 t = -1 ∧ g 47 t = 0 ∧ g 48 t = 0) ∧ (rl (g 43) m).map (sg w) = fL p w (cM w m) ∧ (∀ j : Int, 0 ≤ j → j < (m : Int) → 0 ≤ g 43 j ∧ g 43 j < (m : Int)) → cnP p w < m + c → m ≤ cnP p w → zGo E (d + 6) M_X9_setPeople 0 0 Q 10 ([some (.ref 37), some (.ref 4), some (.int (iI ((m : Int)))), v], [], zJ (k, g, r, l, n), 0, 0) := by
  have ok := ok_X9_setPeople
  intro c
  induction c with
  | zero =>
    intros
    omega
  | succ c ih =>
    intro m g v hv9 ⟨f, f37, fn, ft, fa, fb⟩ g1 g2
    have cn := cnP_in (w := w) hp
    refine s_ldI2 ok rfl ?_
    refine s_ldA0 ok rfl ?_
    refine s_getJ 6 ok rfl rfl rfl rfl ?_
    rw [fn]
    refine s_c_ge ok rfl ⟨by omega, by omega⟩ ⟨by omega, by omega⟩ (fun c15 => ?_) (fun c15 => ?_)
    · have em : cnP p w = m := by omega
      exact hX g _ v rfl hv9 ⟨f, f37, fn, by rw [em]; exact ft, by rw [em]; exact fa, by rw [em]; exact fb⟩
    · have mlt : (m : Int) < cnP p w := by omega
      obtain ⟨v9, hv, wv, b2, b3, b4⟩ := hR.2.1 m (by omega) mlt
      obtain ⟨s0, s1, s2⟩ := sg_lt (p := p) (w := w) (t := (m : Int)) (by omega) mlt
      have p68 := hp.2.2.2.2.2.2.2.2.2.2.2.2.2.1
      obtain ⟨⟨y1, y2⟩, ⟨y3, y4⟩, ⟨y5, y6⟩, ⟨y7, y8⟩, ⟨y9, y10⟩⟩ := hp.2.2.2.2.2.2.2.2.2.2.2.2.2.2.2.2 (sg w (m : Int)) s0 (by omega)
      have z1 := pCm_b hp s0 (show (sg w (m : Int)) < 8 by omega)
      have z2 := pRk_b p (sg w (m : Int))
      have z3 := pEx_b hp s0 (show (sg w (m : Int)) < 8 by omega)
      have z4 := pPl_b p (sg w (m : Int))
      have z5 := pOf_b hp s0 (show (sg w (m : Int)) < 8 by omega)
      have z6 := hp.2.2.2.2.1
      have z7 := hp.2.2.2.2.2.1
      have e4 : g 8 = h 8 := f 8 (by omega)
      have e3 : g 7 = h 7 := f 7 (by omega)
      have e9 : g 13 = h 13 := f 13 (by omega)
      have r20 : h 13 0 = p 2 := (hR.2.2.2.2.2 0 (by omega) (by omega)).2
      refine s_ldA1 ok rfl ?_
      refine s_getF ok rfl rfl rfl rfl ?_
      refine s_ldI2 ok rfl ?_
      refine s_aald ok rfl (by exact rfl) (by exact rfl) (by exact rfl) (by omega) (by omega) hv ?_
      refine s_stA3 ok rfl rfl ?_
      refine s_ldA0 ok rfl ?_
      refine s_getF ok rfl rfl rfl rfl ?_
      refine s_ldI2 ok rfl ?_
      refine s_ldA3 ok rfl ?_
      refine s_ldA1 ok rfl ?_
      refine s_getF ok rfl rfl rfl rfl ?_
      refine s_ldI2 ok rfl ?_
      refine s_iald ok rfl (by exact rfl) (by exact rfl) (by omega) (by omega) ?_
      rw [e4, b4]
      refine s_callD ok rfl rfl rfl rfl (vt_comesAt (wk_fr wv (fW_fix fun q hq => by (repeat rw [zv_other (by omega)]); exact f q (by omega))) y9 (by omega)) ?_
      rw [show kCm (pK p (sg w (m : Int))) (pF p (sg w (m : Int))) (pBa p (sg w (m : Int))) = pCm p (sg w (m : Int)) from rfl]
      refine s_iast ok rfl (by exact rfl) (by exact rfl) (by omega) (by omega) (fun q => by cases q) ?_
      refine s_ldA0 ok rfl ?_
      refine s_getF ok rfl rfl rfl rfl ?_
      refine s_ldI2 ok rfl ?_
      refine s_ci ok rfl ?_
      refine s_ldA3 ok rfl ?_
      refine s_callD ok rfl rfl rfl rfl (vt_rank (wk_fr wv (fW_fix fun q hq => by (repeat rw [zv_other (by omega)]); exact f q (by omega)))) ?_
      rw [show kRk (pK p (sg w (m : Int))) = pRk p (sg w (m : Int)) from rfl]
      refine s_mul ok rfl ?_
      refine s_ldA0 ok rfl ?_
      refine s_getF ok rfl rfl rfl rfl ?_
      refine s_ldI2 ok rfl ?_
      refine s_iald ok rfl (by exact rfl) (by exact rfl) (by omega) (by omega) ?_
      rw [show (zv g 38 (m : Int) (pCm p (sg w (m : Int)))) 38 (m : Int) = pCm p (sg w (m : Int)) from zv_is]
      refine s_add ok rfl ?_
      refine s_iast ok rfl (by exact rfl) (by exact rfl) (by omega) (by omega) (fun q => by cases q) ?_
      refine s_ldA0 ok rfl ?_
      refine s_getF ok rfl rfl rfl rfl ?_
      refine s_ldI2 ok rfl ?_
      refine s_ldA1 ok rfl ?_
      refine s_getF ok rfl rfl rfl rfl ?_
      refine s_ci ok rfl ?_
      refine s_iald ok rfl (by exact rfl) (by exact rfl) (by omega) (by omega) ?_
      rw [show (zv (zv g 38 (m : Int) (pCm p (sg w (m : Int)))) 39 (m : Int) (1000 * pRk p (sg w (m : Int)) + pCm p (sg w (m : Int)))) 13 0 = p 2 from (congrFun (zv_other (by omega)) _).trans ((congrFun (zv_other (by omega)) _).trans ((congrFun e9 0).trans r20))]
      refine s_ldA3 ok rfl ?_
      refine s_callD ok rfl rfl rfl rfl (vt_excuse (wk_fr wv (fW_fix fun q hq => by (repeat rw [zv_other (by omega)]); exact f q (by omega)))) ?_
      rw [show kEx (pK p (sg w (m : Int))) (pF p (sg w (m : Int))) = pEx p (sg w (m : Int)) from rfl]
      refine s_add ok rfl ?_
      refine s_iast ok rfl (by exact rfl) (by exact rfl) (by omega) (by omega) (fun q => by cases q) ?_
      refine s_ldA0 ok rfl ?_
      refine s_getF ok rfl rfl rfl rfl ?_
      refine s_ldI2 ok rfl ?_
      refine s_ldA3 ok rfl ?_
      refine s_callD ok rfl rfl rfl rfl (vt_places (wk_fr wv (fW_fix fun q hq => by (repeat rw [zv_other (by omega)]); exact f q (by omega)))) ?_
      rw [show kPl (pK p (sg w (m : Int))) = pPl p (sg w (m : Int)) from rfl]
      refine s_iast ok rfl (by exact rfl) (by exact rfl) (by omega) (by omega) (fun q => by cases q) ?_
      refine s_ldA0 ok rfl ?_
      refine s_getF ok rfl rfl rfl rfl ?_
      refine s_ldI2 ok rfl ?_
      refine s_ldA3 ok rfl ?_
      refine s_ldA1 ok rfl ?_
      refine s_getF ok rfl rfl rfl rfl ?_
      refine s_ldI2 ok rfl ?_
      refine s_iald ok rfl (by exact rfl) (by exact rfl) (by omega) (by omega) ?_
      rw [show (zv (zv (zv (zv g 38 (m : Int) (pCm p (sg w (m : Int)))) 39 (m : Int) (1000 * pRk p (sg w (m : Int)) + pCm p (sg w (m : Int)))) 40 (m : Int) (p 2 + pEx p (sg w (m : Int)))) 41 (m : Int) (pPl p (sg w (m : Int)))) 7 (m : Int) = pTo p (sg w (m : Int)) from (congrFun (zv_other (by omega)) _).trans ((congrFun (zv_other (by omega)) _).trans ((congrFun (zv_other (by omega)) _).trans ((congrFun (zv_other (by omega)) _).trans ((congrFun e3 _).trans b3))))]
      refine s_callD ok rfl rfl rfl rfl (vt_offAt (wk_fr wv (fW_fix fun q hq => by (repeat rw [zv_other (by omega)]); exact f q (by omega))) y7 (by omega)) ?_
      rw [show kOf (pK p (sg w (m : Int))) (pTo p (sg w (m : Int))) = pOf p (sg w (m : Int)) from rfl]
      refine s_iast ok rfl (by exact rfl) (by exact rfl) (by omega) (by omega) (fun q => by cases q) ?_
      refine s_ldA0 ok rfl ?_
      refine s_getF ok rfl rfl rfl rfl ?_
      refine s_ldI2 ok rfl ?_
      refine s_ci ok rfl ?_
      refine s_iast ok rfl (by exact rfl) (by exact rfl) (by omega) (by omega) (fun q => by cases q) ?_
      refine s_ldA0 ok rfl ?_
      refine s_getF ok rfl rfl rfl rfl ?_
      refine s_ldI2 ok rfl ?_
      refine s_ci ok rfl ?_
      refine s_iast ok rfl (by exact rfl) (by exact rfl) (by omega) (by omega) (fun q => by cases q) ?_
      refine s_ldA0 ok rfl ?_
      refine s_getF ok rfl rfl rfl rfl ?_
      refine s_ldI2 ok rfl ?_
      refine s_ci ok rfl ?_
      refine s_iast ok rfl (by exact rfl) (by exact rfl) (by omega) (by omega) (fun q => by cases q) ?_
      refine s_ldA0 ok rfl ?_
      refine s_ldI2 ok rfl ?_
      have l43 : (zv (zv (zv (zv (zv (zv (zv (zv g 38 (m : Int) (pCm p (sg w (m : Int)))) 39 (m : Int) (1000 * pRk p (sg w (m : Int)) + pCm p (sg w (m : Int)))) 40 (m : Int) (p 2 + pEx p (sg w (m : Int)))) 41 (m : Int) (pPl p (sg w (m : Int)))) 42 (m : Int) (pOf p (sg w (m : Int)))) 44 (m : Int) (-1)) 47 (m : Int) 0) 48 (m : Int) 0) 43 = g 43 := by rw [zv_other (by omega), zv_other (by omega), zv_other (by omega), zv_other (by omega), zv_other (by omega), zv_other (by omega), zv_other (by omega), zv_other (by omega)]
      have l39 : ∀ j : Int, (zv (zv (zv (zv (zv (zv (zv (zv g 38 (m : Int) (pCm p (sg w (m : Int)))) 39 (m : Int) (1000 * pRk p (sg w (m : Int)) + pCm p (sg w (m : Int)))) 40 (m : Int) (p 2 + pEx p (sg w (m : Int)))) 41 (m : Int) (pPl p (sg w (m : Int)))) 42 (m : Int) (pOf p (sg w (m : Int)))) 44 (m : Int) (-1)) 47 (m : Int) 0) 48 (m : Int) 0) 39 j = if j = (m : Int) then 1000 * pRk p (sg w (m : Int)) + pCm p (sg w (m : Int)) else g 39 j := fun j => by
        rw [zv_other (by omega), zv_other (by omega), zv_other (by omega), zv_other (by omega), zv_other (by omega), zv_other (by omega)]
        by_cases c : j = (m : Int)
        · rw [c, zv_is, if_pos rfl]
        · rw [zv_at c, zv_other (by omega), if_neg c]
      refine s_callVv ok rfl rfl rfl rfl rfl rfl (ct_line (h := (zv (zv (zv (zv (zv (zv (zv (zv g 38 (m : Int) (pCm p (sg w (m : Int)))) 39 (m : Int) (1000 * pRk p (sg w (m : Int)) + pCm p (sg w (m : Int)))) 40 (m : Int) (p 2 + pEx p (sg w (m : Int)))) 41 (m : Int) (pPl p (sg w (m : Int)))) 42 (m : Int) (pOf p (sg w (m : Int)))) 44 (m : Int) (-1)) 47 (m : Int) 0) 48 (m : Int) 0)) (t := m) (by omega) (fun j j0 j1 => ?_) (fun j j0 j1 => by rw [l43]; exact fb j j0 j1)) ?_
      · rw [l39]
        split
        · exact ⟨by omega, by omega⟩
        · have sj := sg_lt (p := p) (w := w) (t := j) j0 (by omega)
          have k1 := pCm_b hp sj.1 (by omega)
          have k2 := pRk_b p (sg w j)
          rw [(ft j j0 (by omega)).2.1]
          unfold kY
          exact ⟨by omega, by omega⟩
      rw [l43]
      refine s_inc2 ok rfl rfl ?_
      refine s_goto ok rfl ?_
      have e48 : ∀ q, ¬ q = 43 → zar (zv (zv (zv (zv (zv (zv (zv (zv g 38 (m : Int) (pCm p (sg w (m : Int)))) 39 (m : Int) (1000 * pRk p (sg w (m : Int)) + pCm p (sg w (m : Int)))) 40 (m : Int) (p 2 + pEx p (sg w (m : Int)))) 41 (m : Int) (pPl p (sg w (m : Int)))) 42 (m : Int) (pOf p (sg w (m : Int)))) 44 (m : Int) (-1)) 47 (m : Int) 0) 48 (m : Int) 0) 43 (insA (g 43) m m (zpK ((zv (zv (zv (zv (zv (zv (zv (zv g 38 (m : Int) (pCm p (sg w (m : Int)))) 39 (m : Int) (1000 * pRk p (sg w (m : Int)) + pCm p (sg w (m : Int)))) 40 (m : Int) (p 2 + pEx p (sg w (m : Int)))) 41 (m : Int) (pPl p (sg w (m : Int)))) 42 (m : Int) (pOf p (sg w (m : Int)))) 44 (m : Int) (-1)) 47 (m : Int) 0) 48 (m : Int) 0) 39) (g 43) m m)) q = (zv (zv (zv (zv (zv (zv (zv (zv g 38 (m : Int) (pCm p (sg w (m : Int)))) 39 (m : Int) (1000 * pRk p (sg w (m : Int)) + pCm p (sg w (m : Int)))) 40 (m : Int) (p 2 + pEx p (sg w (m : Int)))) 41 (m : Int) (pPl p (sg w (m : Int)))) 42 (m : Int) (pOf p (sg w (m : Int)))) 44 (m : Int) (-1)) 47 (m : Int) 0) 48 (m : Int) 0) q := fun q hq => zar_other hq
      have e43 : zar (zv (zv (zv (zv (zv (zv (zv (zv g 38 (m : Int) (pCm p (sg w (m : Int)))) 39 (m : Int) (1000 * pRk p (sg w (m : Int)) + pCm p (sg w (m : Int)))) 40 (m : Int) (p 2 + pEx p (sg w (m : Int)))) 41 (m : Int) (pPl p (sg w (m : Int)))) 42 (m : Int) (pOf p (sg w (m : Int)))) 44 (m : Int) (-1)) 47 (m : Int) 0) 48 (m : Int) 0) 43 (insA (g 43) m m (zpK ((zv (zv (zv (zv (zv (zv (zv (zv g 38 (m : Int) (pCm p (sg w (m : Int)))) 39 (m : Int) (1000 * pRk p (sg w (m : Int)) + pCm p (sg w (m : Int)))) 40 (m : Int) (p 2 + pEx p (sg w (m : Int)))) 41 (m : Int) (pPl p (sg w (m : Int)))) 42 (m : Int) (pOf p (sg w (m : Int)))) 44 (m : Int) (-1)) 47 (m : Int) 0) 48 (m : Int) 0) 39) (g 43) m m)) 43 = insA (g 43) m m (zpK ((zv (zv (zv (zv (zv (zv (zv (zv g 38 (m : Int) (pCm p (sg w (m : Int)))) 39 (m : Int) (1000 * pRk p (sg w (m : Int)) + pCm p (sg w (m : Int)))) 40 (m : Int) (p 2 + pEx p (sg w (m : Int)))) 41 (m : Int) (pPl p (sg w (m : Int)))) 42 (m : Int) (pOf p (sg w (m : Int)))) 44 (m : Int) (-1)) 47 (m : Int) 0) 48 (m : Int) 0) 39) (g 43) m m) := zar_at
      have f38 : (zv (zv (zv (zv (zv (zv (zv (zv g 38 (m : Int) (pCm p (sg w (m : Int)))) 39 (m : Int) (1000 * pRk p (sg w (m : Int)) + pCm p (sg w (m : Int)))) 40 (m : Int) (p 2 + pEx p (sg w (m : Int)))) 41 (m : Int) (pPl p (sg w (m : Int)))) 42 (m : Int) (pOf p (sg w (m : Int)))) 44 (m : Int) (-1)) 47 (m : Int) 0) 48 (m : Int) 0) 38 = zv g 38 (m : Int) (pCm p (sg w (m : Int))) 38 := by
        rw [zv_other (by omega), zv_other (by omega), zv_other (by omega), zv_other (by omega), zv_other (by omega), zv_other (by omega), zv_other (by omega)]
      have f39 : (zv (zv (zv (zv (zv (zv (zv (zv g 38 (m : Int) (pCm p (sg w (m : Int)))) 39 (m : Int) (1000 * pRk p (sg w (m : Int)) + pCm p (sg w (m : Int)))) 40 (m : Int) (p 2 + pEx p (sg w (m : Int)))) 41 (m : Int) (pPl p (sg w (m : Int)))) 42 (m : Int) (pOf p (sg w (m : Int)))) 44 (m : Int) (-1)) 47 (m : Int) 0) 48 (m : Int) 0) 39 = zv g 39 (m : Int) (1000 * pRk p (sg w (m : Int)) + pCm p (sg w (m : Int))) 39 := by
        rw [zv_other (by omega), zv_other (by omega), zv_other (by omega), zv_other (by omega), zv_other (by omega), zv_other (by omega)]
        funext j
        by_cases c : j = (m : Int)
        · rw [c, zv_is, zv_is]
        · rw [zv_at c, zv_at c, zv_other (by omega)]
      have f40 : (zv (zv (zv (zv (zv (zv (zv (zv g 38 (m : Int) (pCm p (sg w (m : Int)))) 39 (m : Int) (1000 * pRk p (sg w (m : Int)) + pCm p (sg w (m : Int)))) 40 (m : Int) (p 2 + pEx p (sg w (m : Int)))) 41 (m : Int) (pPl p (sg w (m : Int)))) 42 (m : Int) (pOf p (sg w (m : Int)))) 44 (m : Int) (-1)) 47 (m : Int) 0) 48 (m : Int) 0) 40 = zv g 40 (m : Int) (p 2 + pEx p (sg w (m : Int))) 40 := by
        rw [zv_other (by omega), zv_other (by omega), zv_other (by omega), zv_other (by omega), zv_other (by omega)]
        funext j
        by_cases c : j = (m : Int)
        · rw [c, zv_is, zv_is]
        · rw [zv_at c, zv_at c, zv_other (by omega), zv_other (by omega)]
      have f41 : (zv (zv (zv (zv (zv (zv (zv (zv g 38 (m : Int) (pCm p (sg w (m : Int)))) 39 (m : Int) (1000 * pRk p (sg w (m : Int)) + pCm p (sg w (m : Int)))) 40 (m : Int) (p 2 + pEx p (sg w (m : Int)))) 41 (m : Int) (pPl p (sg w (m : Int)))) 42 (m : Int) (pOf p (sg w (m : Int)))) 44 (m : Int) (-1)) 47 (m : Int) 0) 48 (m : Int) 0) 41 = zv g 41 (m : Int) (pPl p (sg w (m : Int))) 41 := by
        rw [zv_other (by omega), zv_other (by omega), zv_other (by omega), zv_other (by omega)]
        funext j
        by_cases c : j = (m : Int)
        · rw [c, zv_is, zv_is]
        · rw [zv_at c, zv_at c, zv_other (by omega), zv_other (by omega), zv_other (by omega)]
      have f42 : (zv (zv (zv (zv (zv (zv (zv (zv g 38 (m : Int) (pCm p (sg w (m : Int)))) 39 (m : Int) (1000 * pRk p (sg w (m : Int)) + pCm p (sg w (m : Int)))) 40 (m : Int) (p 2 + pEx p (sg w (m : Int)))) 41 (m : Int) (pPl p (sg w (m : Int)))) 42 (m : Int) (pOf p (sg w (m : Int)))) 44 (m : Int) (-1)) 47 (m : Int) 0) 48 (m : Int) 0) 42 = zv g 42 (m : Int) (pOf p (sg w (m : Int))) 42 := by
        rw [zv_other (by omega), zv_other (by omega), zv_other (by omega)]
        funext j
        by_cases c : j = (m : Int)
        · rw [c, zv_is, zv_is]
        · rw [zv_at c, zv_at c, zv_other (by omega), zv_other (by omega), zv_other (by omega), zv_other (by omega)]
      have f44 : (zv (zv (zv (zv (zv (zv (zv (zv g 38 (m : Int) (pCm p (sg w (m : Int)))) 39 (m : Int) (1000 * pRk p (sg w (m : Int)) + pCm p (sg w (m : Int)))) 40 (m : Int) (p 2 + pEx p (sg w (m : Int)))) 41 (m : Int) (pPl p (sg w (m : Int)))) 42 (m : Int) (pOf p (sg w (m : Int)))) 44 (m : Int) (-1)) 47 (m : Int) 0) 48 (m : Int) 0) 44 = zv g 44 (m : Int) (-1) 44 := by
        rw [zv_other (by omega), zv_other (by omega)]
        funext j
        by_cases c : j = (m : Int)
        · rw [c, zv_is, zv_is]
        · rw [zv_at c, zv_at c, zv_other (by omega), zv_other (by omega), zv_other (by omega), zv_other (by omega), zv_other (by omega)]
      have f47 : (zv (zv (zv (zv (zv (zv (zv (zv g 38 (m : Int) (pCm p (sg w (m : Int)))) 39 (m : Int) (1000 * pRk p (sg w (m : Int)) + pCm p (sg w (m : Int)))) 40 (m : Int) (p 2 + pEx p (sg w (m : Int)))) 41 (m : Int) (pPl p (sg w (m : Int)))) 42 (m : Int) (pOf p (sg w (m : Int)))) 44 (m : Int) (-1)) 47 (m : Int) 0) 48 (m : Int) 0) 47 = zv g 47 (m : Int) 0 47 := by
        rw [zv_other (by omega)]
        funext j
        by_cases c : j = (m : Int)
        · rw [c, zv_is, zv_is]
        · rw [zv_at c, zv_at c, zv_other (by omega), zv_other (by omega), zv_other (by omega), zv_other (by omega), zv_other (by omega), zv_other (by omega)]
      have f48 : (zv (zv (zv (zv (zv (zv (zv (zv g 38 (m : Int) (pCm p (sg w (m : Int)))) 39 (m : Int) (1000 * pRk p (sg w (m : Int)) + pCm p (sg w (m : Int)))) 40 (m : Int) (p 2 + pEx p (sg w (m : Int)))) 41 (m : Int) (pPl p (sg w (m : Int)))) 42 (m : Int) (pOf p (sg w (m : Int)))) 44 (m : Int) (-1)) 47 (m : Int) 0) 48 (m : Int) 0) 48 = zv g 48 (m : Int) 0 48 := by
        funext j
        by_cases c : j = (m : Int)
        · rw [c, zv_is, zv_is]
        · rw [zv_at c, zv_at c, zv_other (by omega), zv_other (by omega), zv_other (by omega), zv_other (by omega), zv_other (by omega), zv_other (by omega), zv_other (by omega)]
      have le := zpK_le (K := (zv (zv (zv (zv (zv (zv (zv (zv g 38 (m : Int) (pCm p (sg w (m : Int)))) 39 (m : Int) (1000 * pRk p (sg w (m : Int)) + pCm p (sg w (m : Int)))) 40 (m : Int) (p 2 + pEx p (sg w (m : Int)))) 41 (m : Int) (pPl p (sg w (m : Int)))) 42 (m : Int) (pOf p (sg w (m : Int)))) 44 (m : Int) (-1)) 47 (m : Int) 0) 48 (m : Int) 0) 39) (a := g 43) (t := (m : Int)) m
      refine ih (m + 1) _ _ rfl ⟨fun q hq => ?_, fun j hj => ?_, ?_, fun t t0 t1 => ?_, ?_, fun j j0 j1 => ?_⟩ (by omega) (by omega)
      · rw [e48 q (by omega), zv_other (by omega), zv_other (by omega), zv_other (by omega), zv_other (by omega), zv_other (by omega), zv_other (by omega), zv_other (by omega), zv_other (by omega)]
        exact f q hq
      · rw [e48 37 (by omega), zv_other (by omega), zv_other (by omega), zv_other (by omega), zv_other (by omega), zv_other (by omega), zv_other (by omega), zv_other (by omega), zv_other (by omega)]
        exact f37 j hj
      · rw [e48 37 (by omega), zv_other (by omega), zv_other (by omega), zv_other (by omega), zv_other (by omega), zv_other (by omega), zv_other (by omega), zv_other (by omega), zv_other (by omega)]
        exact fn
      · rw [e48 38 (by omega), e48 39 (by omega), e48 40 (by omega), e48 41 (by omega), e48 42 (by omega), e48 44 (by omega), e48 47 (by omega), e48 48 (by omega), f38, f39, f40, f41, f42, f44, f47, f48]
        by_cases c : t = (m : Int)
        · rw [c, zv_is, zv_is, zv_is, zv_is, zv_is, zv_is, zv_is, zv_is]
          exact ⟨rfl, rfl, rfl, rfl, rfl, rfl, rfl, rfl⟩
        · rw [zv_at c, zv_at c, zv_at c, zv_at c, zv_at c, zv_at c, zv_at c, zv_at c]
          exact ft t t0 (by omega)
      · rw [e43, fL_cM, ← fa]
        refine rl_inK m (fun j j0 j1 => ?_)
        obtain ⟨q0, q1⟩ := fb j j0 j1
        rw [f39, zv_is, zv_at (by omega), (ft _ q0 (by omega)).2.1]
        rfl
      · rw [e43]
        unfold insA
        by_cases c : j = ((zpK ((zv (zv (zv (zv (zv (zv (zv (zv g 38 (m : Int) (pCm p (sg w (m : Int)))) 39 (m : Int) (1000 * pRk p (sg w (m : Int)) + pCm p (sg w (m : Int)))) 40 (m : Int) (p 2 + pEx p (sg w (m : Int)))) 41 (m : Int) (pPl p (sg w (m : Int)))) 42 (m : Int) (pOf p (sg w (m : Int)))) 44 (m : Int) (-1)) 47 (m : Int) 0) 48 (m : Int) 0) 39) (g 43) m m : Nat) : Int)
        · rw [if_pos c]; omega
        · rw [if_neg c]
          unfold shA
          by_cases d : ((zpK ((zv (zv (zv (zv (zv (zv (zv (zv g 38 (m : Int) (pCm p (sg w (m : Int)))) 39 (m : Int) (1000 * pRk p (sg w (m : Int)) + pCm p (sg w (m : Int)))) 40 (m : Int) (p 2 + pEx p (sg w (m : Int)))) 41 (m : Int) (pPl p (sg w (m : Int)))) 42 (m : Int) (pOf p (sg w (m : Int)))) 44 (m : Int) (-1)) 47 (m : Int) 0) 48 (m : Int) 0) 39) (g 43) m m : Nat) : Int) < j ∧ j ≤ (m : Int)
          · rw [if_pos d]
            have := fb (j - 1) (by omega) (by omega)
            omega
          · rw [if_neg d]
            have := fb j j0 (by omega)
            omega
theorem ct_setPeople4 {E : zE} {d : Nat} {k : Nat → Nat × Nat} {h : Nat → Int → Int} {r : Nat → Int → Option Nat} {l : Nat → Nat → Int64} {n : Nat} {p : Int → Int} {w : Int} (hp : pOK p) (hR : cR 4 5 6 7 8 9 10 11 12 13 k h r n p w) : zCT E (d + 6) M_X9_setPeople [.ref 37, .ref 4] (zJ (k, h, r, l, n)) 0 0 (zUx (zG k r l n (fun g => (∀ q : Nat, (q < 37 ∨ 48 < q ∨ q = 45 ∨ q = 46) → g q = h q) ∧ (∀ j, ¬ j = 6 → g 37 j = h 37 j) ∧ tC p w g ∧ (∀ t : Int, 0 ≤ t → t < cnP p w → g 44 t = -1 ∧ g 47 t = 0 ∧ g 48 t = 0)))) := by
  have ok := ok_X9_setPeople
  refine zCT_of pn_X9_setPeople (Nat.le_of_ble_eq_true rfl) ?_
  show zGo _ _ _ _ _ _ 0 ([some (.ref 37), some (.ref 4), none, none], [], _, _, _)
  refine s_ldA0 ok rfl ?_
  refine s_ldA1 ok rfl ?_
  refine s_getJ 0 ok rfl rfl rfl rfl ?_
  rw [hR.1.1]
  refine s_putJ 6 ok rfl rfl rfl rfl (fun q => by cases q) ?_
  refine s_ci ok rfl ?_
  refine s_stI2 ok rfl rfl ?_
  have p60 := hp.2.2.2.2.2.2.2.2.2.2.2.2.1
  have cn := cnP_in (w := w) hp
  refine lp_setPeople4 (E := E) (d := d) (k := k) (r := r) (l := l) (n := n) (h := h) hp hR (fun g u v hu hv ⟨f, f37, fn, ft, fa, fb⟩ => ?_) ((cnP p w).toNat + 1) 0 _ none rfl ⟨fun q hq => ?_, fun j hj => zv_at hj, zv_is, fun t t0 t1 => by omega, ?_, fun j j0 j1 => by omega⟩ (by omega) (by omega)
  · refine s_retV ok rfl ⟨rfl, g, rfl, f, f37, ⟨fn, fun t t0 t1 => ?_, ?_, fb⟩, fun t t0 t1 => ?_⟩
    · obtain ⟨q1, q2, q3, q4, q5, -⟩ := ft t t0 t1
      exact ⟨q1, q2, q3, q4, q5⟩
    · rw [fa, fL_end p60]
    · obtain ⟨-, -, -, -, -, q6, q7, q8⟩ := ft t t0 t1
      exact ⟨q6, q7, q8⟩
  · rw [zv_other (by omega)]
  · have : cM w 0 = 0 := if_neg (by omega)
    rw [this]
    rfl
theorem lp_setPeople15 {E : zE} {d : Nat} {k : Nat → Nat × Nat} {h : Nat → Int → Int} {r : Nat → Int → Option Nat} {l : Nat → Nat → Int64} {n : Nat} {Q : zQ} {p : Int → Int} {w : Int} (hp : pOK p) (hR : cR 15 16 17 18 19 20 21 22 23 24 k h r n p w) (hX : ∀ g u v, znl u = true → znl v = true → (∀ q : Nat, (q < 37 ∨ 48 < q ∨ q = 45 ∨ q = 46) → g q = h q) ∧ (∀ j, ¬ j = 6 → g 37 j = h 37 j) ∧ g 37 6 = cnP p w ∧ (∀ t : Int, 0 ≤ t → t < cnP p w → g 38 t = pCm p (sg w t) ∧ g 39 t = kY p (sg w t) ∧ g 40 t = p 2 + pEx p (sg w t) ∧ g 41 t = pPl p (sg w t) ∧ g 42 t = pOf p (sg w t) ∧ g 44 t = -1 ∧ g 47 t = 0 ∧ g 48 t = 0) ∧ (rl (g 43) (cnP p w).toNat).map (sg w) = fL p w (cM w (cnP p w).toNat) ∧ (∀ j : Int, 0 ≤ j → j < cnP p w → 0 ≤ g 43 j ∧ g 43 j < cnP p w) → zGo E (d + 6) M_X9_setPeople 0 0 Q 137 ([some (.ref 37), some (.ref 15), u, v], [], zJ (k, g, r, l, n), 0, 0)) : ∀ c : Nat, ∀ (m : Nat) (g : Nat → Int → Int) (v : Option Value), znl v = true → (∀ q : Nat, (q < 37 ∨ 48 < q ∨ q = 45 ∨ q = 46) → g q = h q) ∧ (∀ j, ¬ j = 6 → g 37 j = h 37 j) ∧ g 37 6 = cnP p w ∧ (∀ t : Int, 0 ≤ t → t < (m : Int) → g 38 t = pCm p (sg w t) ∧ g 39 t = kY p (sg w t) ∧ g 40 t = p 2 + pEx p (sg w t) ∧ g 41 t = pPl p (sg w t) ∧ g 42 t = pOf p (sg w t) ∧ g 44 t = -1 ∧ g 47 t = 0 ∧ g 48 t = 0) ∧ (rl (g 43) m).map (sg w) = fL p w (cM w m) ∧ (∀ j : Int, 0 ≤ j → j < (m : Int) → 0 ≤ g 43 j ∧ g 43 j < (m : Int)) → cnP p w < m + c → m ≤ cnP p w → zGo E (d + 6) M_X9_setPeople 0 0 Q 10 ([some (.ref 37), some (.ref 15), some (.int (iI ((m : Int)))), v], [], zJ (k, g, r, l, n), 0, 0) := by
  have ok := ok_X9_setPeople
  intro c
  induction c with
  | zero =>
    intros
    omega
  | succ c ih =>
    intro m g v hv9 ⟨f, f37, fn, ft, fa, fb⟩ g1 g2
    have cn := cnP_in (w := w) hp
    refine s_ldI2 ok rfl ?_
    refine s_ldA0 ok rfl ?_
    refine s_getJ 6 ok rfl rfl rfl rfl ?_
    rw [fn]
    refine s_c_ge ok rfl ⟨by omega, by omega⟩ ⟨by omega, by omega⟩ (fun c15 => ?_) (fun c15 => ?_)
    · have em : cnP p w = m := by omega
      exact hX g _ v rfl hv9 ⟨f, f37, fn, by rw [em]; exact ft, by rw [em]; exact fa, by rw [em]; exact fb⟩
    · have mlt : (m : Int) < cnP p w := by omega
      obtain ⟨v9, hv, wv, b2, b3, b4⟩ := hR.2.1 m (by omega) mlt
      obtain ⟨s0, s1, s2⟩ := sg_lt (p := p) (w := w) (t := (m : Int)) (by omega) mlt
      have p68 := hp.2.2.2.2.2.2.2.2.2.2.2.2.2.1
      obtain ⟨⟨y1, y2⟩, ⟨y3, y4⟩, ⟨y5, y6⟩, ⟨y7, y8⟩, ⟨y9, y10⟩⟩ := hp.2.2.2.2.2.2.2.2.2.2.2.2.2.2.2.2 (sg w (m : Int)) s0 (by omega)
      have z1 := pCm_b hp s0 (show (sg w (m : Int)) < 8 by omega)
      have z2 := pRk_b p (sg w (m : Int))
      have z3 := pEx_b hp s0 (show (sg w (m : Int)) < 8 by omega)
      have z4 := pPl_b p (sg w (m : Int))
      have z5 := pOf_b hp s0 (show (sg w (m : Int)) < 8 by omega)
      have z6 := hp.2.2.2.2.1
      have z7 := hp.2.2.2.2.2.1
      have e4 : g 19 = h 19 := f 19 (by omega)
      have e3 : g 18 = h 18 := f 18 (by omega)
      have e9 : g 24 = h 24 := f 24 (by omega)
      have r20 : h 24 0 = p 2 := (hR.2.2.2.2.2 0 (by omega) (by omega)).2
      refine s_ldA1 ok rfl ?_
      refine s_getF ok rfl rfl rfl rfl ?_
      refine s_ldI2 ok rfl ?_
      refine s_aald ok rfl (by exact rfl) (by exact rfl) (by exact rfl) (by omega) (by omega) hv ?_
      refine s_stA3 ok rfl rfl ?_
      refine s_ldA0 ok rfl ?_
      refine s_getF ok rfl rfl rfl rfl ?_
      refine s_ldI2 ok rfl ?_
      refine s_ldA3 ok rfl ?_
      refine s_ldA1 ok rfl ?_
      refine s_getF ok rfl rfl rfl rfl ?_
      refine s_ldI2 ok rfl ?_
      refine s_iald ok rfl (by exact rfl) (by exact rfl) (by omega) (by omega) ?_
      rw [e4, b4]
      refine s_callD ok rfl rfl rfl rfl (vt_comesAt (wk_fr wv (fW_fix fun q hq => by (repeat rw [zv_other (by omega)]); exact f q (by omega))) y9 (by omega)) ?_
      rw [show kCm (pK p (sg w (m : Int))) (pF p (sg w (m : Int))) (pBa p (sg w (m : Int))) = pCm p (sg w (m : Int)) from rfl]
      refine s_iast ok rfl (by exact rfl) (by exact rfl) (by omega) (by omega) (fun q => by cases q) ?_
      refine s_ldA0 ok rfl ?_
      refine s_getF ok rfl rfl rfl rfl ?_
      refine s_ldI2 ok rfl ?_
      refine s_ci ok rfl ?_
      refine s_ldA3 ok rfl ?_
      refine s_callD ok rfl rfl rfl rfl (vt_rank (wk_fr wv (fW_fix fun q hq => by (repeat rw [zv_other (by omega)]); exact f q (by omega)))) ?_
      rw [show kRk (pK p (sg w (m : Int))) = pRk p (sg w (m : Int)) from rfl]
      refine s_mul ok rfl ?_
      refine s_ldA0 ok rfl ?_
      refine s_getF ok rfl rfl rfl rfl ?_
      refine s_ldI2 ok rfl ?_
      refine s_iald ok rfl (by exact rfl) (by exact rfl) (by omega) (by omega) ?_
      rw [show (zv g 38 (m : Int) (pCm p (sg w (m : Int)))) 38 (m : Int) = pCm p (sg w (m : Int)) from zv_is]
      refine s_add ok rfl ?_
      refine s_iast ok rfl (by exact rfl) (by exact rfl) (by omega) (by omega) (fun q => by cases q) ?_
      refine s_ldA0 ok rfl ?_
      refine s_getF ok rfl rfl rfl rfl ?_
      refine s_ldI2 ok rfl ?_
      refine s_ldA1 ok rfl ?_
      refine s_getF ok rfl rfl rfl rfl ?_
      refine s_ci ok rfl ?_
      refine s_iald ok rfl (by exact rfl) (by exact rfl) (by omega) (by omega) ?_
      rw [show (zv (zv g 38 (m : Int) (pCm p (sg w (m : Int)))) 39 (m : Int) (1000 * pRk p (sg w (m : Int)) + pCm p (sg w (m : Int)))) 24 0 = p 2 from (congrFun (zv_other (by omega)) _).trans ((congrFun (zv_other (by omega)) _).trans ((congrFun e9 0).trans r20))]
      refine s_ldA3 ok rfl ?_
      refine s_callD ok rfl rfl rfl rfl (vt_excuse (wk_fr wv (fW_fix fun q hq => by (repeat rw [zv_other (by omega)]); exact f q (by omega)))) ?_
      rw [show kEx (pK p (sg w (m : Int))) (pF p (sg w (m : Int))) = pEx p (sg w (m : Int)) from rfl]
      refine s_add ok rfl ?_
      refine s_iast ok rfl (by exact rfl) (by exact rfl) (by omega) (by omega) (fun q => by cases q) ?_
      refine s_ldA0 ok rfl ?_
      refine s_getF ok rfl rfl rfl rfl ?_
      refine s_ldI2 ok rfl ?_
      refine s_ldA3 ok rfl ?_
      refine s_callD ok rfl rfl rfl rfl (vt_places (wk_fr wv (fW_fix fun q hq => by (repeat rw [zv_other (by omega)]); exact f q (by omega)))) ?_
      rw [show kPl (pK p (sg w (m : Int))) = pPl p (sg w (m : Int)) from rfl]
      refine s_iast ok rfl (by exact rfl) (by exact rfl) (by omega) (by omega) (fun q => by cases q) ?_
      refine s_ldA0 ok rfl ?_
      refine s_getF ok rfl rfl rfl rfl ?_
      refine s_ldI2 ok rfl ?_
      refine s_ldA3 ok rfl ?_
      refine s_ldA1 ok rfl ?_
      refine s_getF ok rfl rfl rfl rfl ?_
      refine s_ldI2 ok rfl ?_
      refine s_iald ok rfl (by exact rfl) (by exact rfl) (by omega) (by omega) ?_
      rw [show (zv (zv (zv (zv g 38 (m : Int) (pCm p (sg w (m : Int)))) 39 (m : Int) (1000 * pRk p (sg w (m : Int)) + pCm p (sg w (m : Int)))) 40 (m : Int) (p 2 + pEx p (sg w (m : Int)))) 41 (m : Int) (pPl p (sg w (m : Int)))) 18 (m : Int) = pTo p (sg w (m : Int)) from (congrFun (zv_other (by omega)) _).trans ((congrFun (zv_other (by omega)) _).trans ((congrFun (zv_other (by omega)) _).trans ((congrFun (zv_other (by omega)) _).trans ((congrFun e3 _).trans b3))))]
      refine s_callD ok rfl rfl rfl rfl (vt_offAt (wk_fr wv (fW_fix fun q hq => by (repeat rw [zv_other (by omega)]); exact f q (by omega))) y7 (by omega)) ?_
      rw [show kOf (pK p (sg w (m : Int))) (pTo p (sg w (m : Int))) = pOf p (sg w (m : Int)) from rfl]
      refine s_iast ok rfl (by exact rfl) (by exact rfl) (by omega) (by omega) (fun q => by cases q) ?_
      refine s_ldA0 ok rfl ?_
      refine s_getF ok rfl rfl rfl rfl ?_
      refine s_ldI2 ok rfl ?_
      refine s_ci ok rfl ?_
      refine s_iast ok rfl (by exact rfl) (by exact rfl) (by omega) (by omega) (fun q => by cases q) ?_
      refine s_ldA0 ok rfl ?_
      refine s_getF ok rfl rfl rfl rfl ?_
      refine s_ldI2 ok rfl ?_
      refine s_ci ok rfl ?_
      refine s_iast ok rfl (by exact rfl) (by exact rfl) (by omega) (by omega) (fun q => by cases q) ?_
      refine s_ldA0 ok rfl ?_
      refine s_getF ok rfl rfl rfl rfl ?_
      refine s_ldI2 ok rfl ?_
      refine s_ci ok rfl ?_
      refine s_iast ok rfl (by exact rfl) (by exact rfl) (by omega) (by omega) (fun q => by cases q) ?_
      refine s_ldA0 ok rfl ?_
      refine s_ldI2 ok rfl ?_
      have l43 : (zv (zv (zv (zv (zv (zv (zv (zv g 38 (m : Int) (pCm p (sg w (m : Int)))) 39 (m : Int) (1000 * pRk p (sg w (m : Int)) + pCm p (sg w (m : Int)))) 40 (m : Int) (p 2 + pEx p (sg w (m : Int)))) 41 (m : Int) (pPl p (sg w (m : Int)))) 42 (m : Int) (pOf p (sg w (m : Int)))) 44 (m : Int) (-1)) 47 (m : Int) 0) 48 (m : Int) 0) 43 = g 43 := by rw [zv_other (by omega), zv_other (by omega), zv_other (by omega), zv_other (by omega), zv_other (by omega), zv_other (by omega), zv_other (by omega), zv_other (by omega)]
      have l39 : ∀ j : Int, (zv (zv (zv (zv (zv (zv (zv (zv g 38 (m : Int) (pCm p (sg w (m : Int)))) 39 (m : Int) (1000 * pRk p (sg w (m : Int)) + pCm p (sg w (m : Int)))) 40 (m : Int) (p 2 + pEx p (sg w (m : Int)))) 41 (m : Int) (pPl p (sg w (m : Int)))) 42 (m : Int) (pOf p (sg w (m : Int)))) 44 (m : Int) (-1)) 47 (m : Int) 0) 48 (m : Int) 0) 39 j = if j = (m : Int) then 1000 * pRk p (sg w (m : Int)) + pCm p (sg w (m : Int)) else g 39 j := fun j => by
        rw [zv_other (by omega), zv_other (by omega), zv_other (by omega), zv_other (by omega), zv_other (by omega), zv_other (by omega)]
        by_cases c : j = (m : Int)
        · rw [c, zv_is, if_pos rfl]
        · rw [zv_at c, zv_other (by omega), if_neg c]
      refine s_callVv ok rfl rfl rfl rfl rfl rfl (ct_line (h := (zv (zv (zv (zv (zv (zv (zv (zv g 38 (m : Int) (pCm p (sg w (m : Int)))) 39 (m : Int) (1000 * pRk p (sg w (m : Int)) + pCm p (sg w (m : Int)))) 40 (m : Int) (p 2 + pEx p (sg w (m : Int)))) 41 (m : Int) (pPl p (sg w (m : Int)))) 42 (m : Int) (pOf p (sg w (m : Int)))) 44 (m : Int) (-1)) 47 (m : Int) 0) 48 (m : Int) 0)) (t := m) (by omega) (fun j j0 j1 => ?_) (fun j j0 j1 => by rw [l43]; exact fb j j0 j1)) ?_
      · rw [l39]
        split
        · exact ⟨by omega, by omega⟩
        · have sj := sg_lt (p := p) (w := w) (t := j) j0 (by omega)
          have k1 := pCm_b hp sj.1 (by omega)
          have k2 := pRk_b p (sg w j)
          rw [(ft j j0 (by omega)).2.1]
          unfold kY
          exact ⟨by omega, by omega⟩
      rw [l43]
      refine s_inc2 ok rfl rfl ?_
      refine s_goto ok rfl ?_
      have e48 : ∀ q, ¬ q = 43 → zar (zv (zv (zv (zv (zv (zv (zv (zv g 38 (m : Int) (pCm p (sg w (m : Int)))) 39 (m : Int) (1000 * pRk p (sg w (m : Int)) + pCm p (sg w (m : Int)))) 40 (m : Int) (p 2 + pEx p (sg w (m : Int)))) 41 (m : Int) (pPl p (sg w (m : Int)))) 42 (m : Int) (pOf p (sg w (m : Int)))) 44 (m : Int) (-1)) 47 (m : Int) 0) 48 (m : Int) 0) 43 (insA (g 43) m m (zpK ((zv (zv (zv (zv (zv (zv (zv (zv g 38 (m : Int) (pCm p (sg w (m : Int)))) 39 (m : Int) (1000 * pRk p (sg w (m : Int)) + pCm p (sg w (m : Int)))) 40 (m : Int) (p 2 + pEx p (sg w (m : Int)))) 41 (m : Int) (pPl p (sg w (m : Int)))) 42 (m : Int) (pOf p (sg w (m : Int)))) 44 (m : Int) (-1)) 47 (m : Int) 0) 48 (m : Int) 0) 39) (g 43) m m)) q = (zv (zv (zv (zv (zv (zv (zv (zv g 38 (m : Int) (pCm p (sg w (m : Int)))) 39 (m : Int) (1000 * pRk p (sg w (m : Int)) + pCm p (sg w (m : Int)))) 40 (m : Int) (p 2 + pEx p (sg w (m : Int)))) 41 (m : Int) (pPl p (sg w (m : Int)))) 42 (m : Int) (pOf p (sg w (m : Int)))) 44 (m : Int) (-1)) 47 (m : Int) 0) 48 (m : Int) 0) q := fun q hq => zar_other hq
      have e43 : zar (zv (zv (zv (zv (zv (zv (zv (zv g 38 (m : Int) (pCm p (sg w (m : Int)))) 39 (m : Int) (1000 * pRk p (sg w (m : Int)) + pCm p (sg w (m : Int)))) 40 (m : Int) (p 2 + pEx p (sg w (m : Int)))) 41 (m : Int) (pPl p (sg w (m : Int)))) 42 (m : Int) (pOf p (sg w (m : Int)))) 44 (m : Int) (-1)) 47 (m : Int) 0) 48 (m : Int) 0) 43 (insA (g 43) m m (zpK ((zv (zv (zv (zv (zv (zv (zv (zv g 38 (m : Int) (pCm p (sg w (m : Int)))) 39 (m : Int) (1000 * pRk p (sg w (m : Int)) + pCm p (sg w (m : Int)))) 40 (m : Int) (p 2 + pEx p (sg w (m : Int)))) 41 (m : Int) (pPl p (sg w (m : Int)))) 42 (m : Int) (pOf p (sg w (m : Int)))) 44 (m : Int) (-1)) 47 (m : Int) 0) 48 (m : Int) 0) 39) (g 43) m m)) 43 = insA (g 43) m m (zpK ((zv (zv (zv (zv (zv (zv (zv (zv g 38 (m : Int) (pCm p (sg w (m : Int)))) 39 (m : Int) (1000 * pRk p (sg w (m : Int)) + pCm p (sg w (m : Int)))) 40 (m : Int) (p 2 + pEx p (sg w (m : Int)))) 41 (m : Int) (pPl p (sg w (m : Int)))) 42 (m : Int) (pOf p (sg w (m : Int)))) 44 (m : Int) (-1)) 47 (m : Int) 0) 48 (m : Int) 0) 39) (g 43) m m) := zar_at
      have f38 : (zv (zv (zv (zv (zv (zv (zv (zv g 38 (m : Int) (pCm p (sg w (m : Int)))) 39 (m : Int) (1000 * pRk p (sg w (m : Int)) + pCm p (sg w (m : Int)))) 40 (m : Int) (p 2 + pEx p (sg w (m : Int)))) 41 (m : Int) (pPl p (sg w (m : Int)))) 42 (m : Int) (pOf p (sg w (m : Int)))) 44 (m : Int) (-1)) 47 (m : Int) 0) 48 (m : Int) 0) 38 = zv g 38 (m : Int) (pCm p (sg w (m : Int))) 38 := by
        rw [zv_other (by omega), zv_other (by omega), zv_other (by omega), zv_other (by omega), zv_other (by omega), zv_other (by omega), zv_other (by omega)]
      have f39 : (zv (zv (zv (zv (zv (zv (zv (zv g 38 (m : Int) (pCm p (sg w (m : Int)))) 39 (m : Int) (1000 * pRk p (sg w (m : Int)) + pCm p (sg w (m : Int)))) 40 (m : Int) (p 2 + pEx p (sg w (m : Int)))) 41 (m : Int) (pPl p (sg w (m : Int)))) 42 (m : Int) (pOf p (sg w (m : Int)))) 44 (m : Int) (-1)) 47 (m : Int) 0) 48 (m : Int) 0) 39 = zv g 39 (m : Int) (1000 * pRk p (sg w (m : Int)) + pCm p (sg w (m : Int))) 39 := by
        rw [zv_other (by omega), zv_other (by omega), zv_other (by omega), zv_other (by omega), zv_other (by omega), zv_other (by omega)]
        funext j
        by_cases c : j = (m : Int)
        · rw [c, zv_is, zv_is]
        · rw [zv_at c, zv_at c, zv_other (by omega)]
      have f40 : (zv (zv (zv (zv (zv (zv (zv (zv g 38 (m : Int) (pCm p (sg w (m : Int)))) 39 (m : Int) (1000 * pRk p (sg w (m : Int)) + pCm p (sg w (m : Int)))) 40 (m : Int) (p 2 + pEx p (sg w (m : Int)))) 41 (m : Int) (pPl p (sg w (m : Int)))) 42 (m : Int) (pOf p (sg w (m : Int)))) 44 (m : Int) (-1)) 47 (m : Int) 0) 48 (m : Int) 0) 40 = zv g 40 (m : Int) (p 2 + pEx p (sg w (m : Int))) 40 := by
        rw [zv_other (by omega), zv_other (by omega), zv_other (by omega), zv_other (by omega), zv_other (by omega)]
        funext j
        by_cases c : j = (m : Int)
        · rw [c, zv_is, zv_is]
        · rw [zv_at c, zv_at c, zv_other (by omega), zv_other (by omega)]
      have f41 : (zv (zv (zv (zv (zv (zv (zv (zv g 38 (m : Int) (pCm p (sg w (m : Int)))) 39 (m : Int) (1000 * pRk p (sg w (m : Int)) + pCm p (sg w (m : Int)))) 40 (m : Int) (p 2 + pEx p (sg w (m : Int)))) 41 (m : Int) (pPl p (sg w (m : Int)))) 42 (m : Int) (pOf p (sg w (m : Int)))) 44 (m : Int) (-1)) 47 (m : Int) 0) 48 (m : Int) 0) 41 = zv g 41 (m : Int) (pPl p (sg w (m : Int))) 41 := by
        rw [zv_other (by omega), zv_other (by omega), zv_other (by omega), zv_other (by omega)]
        funext j
        by_cases c : j = (m : Int)
        · rw [c, zv_is, zv_is]
        · rw [zv_at c, zv_at c, zv_other (by omega), zv_other (by omega), zv_other (by omega)]
      have f42 : (zv (zv (zv (zv (zv (zv (zv (zv g 38 (m : Int) (pCm p (sg w (m : Int)))) 39 (m : Int) (1000 * pRk p (sg w (m : Int)) + pCm p (sg w (m : Int)))) 40 (m : Int) (p 2 + pEx p (sg w (m : Int)))) 41 (m : Int) (pPl p (sg w (m : Int)))) 42 (m : Int) (pOf p (sg w (m : Int)))) 44 (m : Int) (-1)) 47 (m : Int) 0) 48 (m : Int) 0) 42 = zv g 42 (m : Int) (pOf p (sg w (m : Int))) 42 := by
        rw [zv_other (by omega), zv_other (by omega), zv_other (by omega)]
        funext j
        by_cases c : j = (m : Int)
        · rw [c, zv_is, zv_is]
        · rw [zv_at c, zv_at c, zv_other (by omega), zv_other (by omega), zv_other (by omega), zv_other (by omega)]
      have f44 : (zv (zv (zv (zv (zv (zv (zv (zv g 38 (m : Int) (pCm p (sg w (m : Int)))) 39 (m : Int) (1000 * pRk p (sg w (m : Int)) + pCm p (sg w (m : Int)))) 40 (m : Int) (p 2 + pEx p (sg w (m : Int)))) 41 (m : Int) (pPl p (sg w (m : Int)))) 42 (m : Int) (pOf p (sg w (m : Int)))) 44 (m : Int) (-1)) 47 (m : Int) 0) 48 (m : Int) 0) 44 = zv g 44 (m : Int) (-1) 44 := by
        rw [zv_other (by omega), zv_other (by omega)]
        funext j
        by_cases c : j = (m : Int)
        · rw [c, zv_is, zv_is]
        · rw [zv_at c, zv_at c, zv_other (by omega), zv_other (by omega), zv_other (by omega), zv_other (by omega), zv_other (by omega)]
      have f47 : (zv (zv (zv (zv (zv (zv (zv (zv g 38 (m : Int) (pCm p (sg w (m : Int)))) 39 (m : Int) (1000 * pRk p (sg w (m : Int)) + pCm p (sg w (m : Int)))) 40 (m : Int) (p 2 + pEx p (sg w (m : Int)))) 41 (m : Int) (pPl p (sg w (m : Int)))) 42 (m : Int) (pOf p (sg w (m : Int)))) 44 (m : Int) (-1)) 47 (m : Int) 0) 48 (m : Int) 0) 47 = zv g 47 (m : Int) 0 47 := by
        rw [zv_other (by omega)]
        funext j
        by_cases c : j = (m : Int)
        · rw [c, zv_is, zv_is]
        · rw [zv_at c, zv_at c, zv_other (by omega), zv_other (by omega), zv_other (by omega), zv_other (by omega), zv_other (by omega), zv_other (by omega)]
      have f48 : (zv (zv (zv (zv (zv (zv (zv (zv g 38 (m : Int) (pCm p (sg w (m : Int)))) 39 (m : Int) (1000 * pRk p (sg w (m : Int)) + pCm p (sg w (m : Int)))) 40 (m : Int) (p 2 + pEx p (sg w (m : Int)))) 41 (m : Int) (pPl p (sg w (m : Int)))) 42 (m : Int) (pOf p (sg w (m : Int)))) 44 (m : Int) (-1)) 47 (m : Int) 0) 48 (m : Int) 0) 48 = zv g 48 (m : Int) 0 48 := by
        funext j
        by_cases c : j = (m : Int)
        · rw [c, zv_is, zv_is]
        · rw [zv_at c, zv_at c, zv_other (by omega), zv_other (by omega), zv_other (by omega), zv_other (by omega), zv_other (by omega), zv_other (by omega), zv_other (by omega)]
      have le := zpK_le (K := (zv (zv (zv (zv (zv (zv (zv (zv g 38 (m : Int) (pCm p (sg w (m : Int)))) 39 (m : Int) (1000 * pRk p (sg w (m : Int)) + pCm p (sg w (m : Int)))) 40 (m : Int) (p 2 + pEx p (sg w (m : Int)))) 41 (m : Int) (pPl p (sg w (m : Int)))) 42 (m : Int) (pOf p (sg w (m : Int)))) 44 (m : Int) (-1)) 47 (m : Int) 0) 48 (m : Int) 0) 39) (a := g 43) (t := (m : Int)) m
      refine ih (m + 1) _ _ rfl ⟨fun q hq => ?_, fun j hj => ?_, ?_, fun t t0 t1 => ?_, ?_, fun j j0 j1 => ?_⟩ (by omega) (by omega)
      · rw [e48 q (by omega), zv_other (by omega), zv_other (by omega), zv_other (by omega), zv_other (by omega), zv_other (by omega), zv_other (by omega), zv_other (by omega), zv_other (by omega)]
        exact f q hq
      · rw [e48 37 (by omega), zv_other (by omega), zv_other (by omega), zv_other (by omega), zv_other (by omega), zv_other (by omega), zv_other (by omega), zv_other (by omega), zv_other (by omega)]
        exact f37 j hj
      · rw [e48 37 (by omega), zv_other (by omega), zv_other (by omega), zv_other (by omega), zv_other (by omega), zv_other (by omega), zv_other (by omega), zv_other (by omega), zv_other (by omega)]
        exact fn
      · rw [e48 38 (by omega), e48 39 (by omega), e48 40 (by omega), e48 41 (by omega), e48 42 (by omega), e48 44 (by omega), e48 47 (by omega), e48 48 (by omega), f38, f39, f40, f41, f42, f44, f47, f48]
        by_cases c : t = (m : Int)
        · rw [c, zv_is, zv_is, zv_is, zv_is, zv_is, zv_is, zv_is, zv_is]
          exact ⟨rfl, rfl, rfl, rfl, rfl, rfl, rfl, rfl⟩
        · rw [zv_at c, zv_at c, zv_at c, zv_at c, zv_at c, zv_at c, zv_at c, zv_at c]
          exact ft t t0 (by omega)
      · rw [e43, fL_cM, ← fa]
        refine rl_inK m (fun j j0 j1 => ?_)
        obtain ⟨q0, q1⟩ := fb j j0 j1
        rw [f39, zv_is, zv_at (by omega), (ft _ q0 (by omega)).2.1]
        rfl
      · rw [e43]
        unfold insA
        by_cases c : j = ((zpK ((zv (zv (zv (zv (zv (zv (zv (zv g 38 (m : Int) (pCm p (sg w (m : Int)))) 39 (m : Int) (1000 * pRk p (sg w (m : Int)) + pCm p (sg w (m : Int)))) 40 (m : Int) (p 2 + pEx p (sg w (m : Int)))) 41 (m : Int) (pPl p (sg w (m : Int)))) 42 (m : Int) (pOf p (sg w (m : Int)))) 44 (m : Int) (-1)) 47 (m : Int) 0) 48 (m : Int) 0) 39) (g 43) m m : Nat) : Int)
        · rw [if_pos c]; omega
        · rw [if_neg c]
          unfold shA
          by_cases d : ((zpK ((zv (zv (zv (zv (zv (zv (zv (zv g 38 (m : Int) (pCm p (sg w (m : Int)))) 39 (m : Int) (1000 * pRk p (sg w (m : Int)) + pCm p (sg w (m : Int)))) 40 (m : Int) (p 2 + pEx p (sg w (m : Int)))) 41 (m : Int) (pPl p (sg w (m : Int)))) 42 (m : Int) (pOf p (sg w (m : Int)))) 44 (m : Int) (-1)) 47 (m : Int) 0) 48 (m : Int) 0) 39) (g 43) m m : Nat) : Int) < j ∧ j ≤ (m : Int)
          · rw [if_pos d]
            have := fb (j - 1) (by omega) (by omega)
            omega
          · rw [if_neg d]
            have := fb j j0 (by omega)
            omega
theorem ct_setPeople15 {E : zE} {d : Nat} {k : Nat → Nat × Nat} {h : Nat → Int → Int} {r : Nat → Int → Option Nat} {l : Nat → Nat → Int64} {n : Nat} {p : Int → Int} {w : Int} (hp : pOK p) (hR : cR 15 16 17 18 19 20 21 22 23 24 k h r n p w) : zCT E (d + 6) M_X9_setPeople [.ref 37, .ref 15] (zJ (k, h, r, l, n)) 0 0 (zUx (zG k r l n (fun g => (∀ q : Nat, (q < 37 ∨ 48 < q ∨ q = 45 ∨ q = 46) → g q = h q) ∧ (∀ j, ¬ j = 6 → g 37 j = h 37 j) ∧ tC p w g ∧ (∀ t : Int, 0 ≤ t → t < cnP p w → g 44 t = -1 ∧ g 47 t = 0 ∧ g 48 t = 0)))) := by
  have ok := ok_X9_setPeople
  refine zCT_of pn_X9_setPeople (Nat.le_of_ble_eq_true rfl) ?_
  show zGo _ _ _ _ _ _ 0 ([some (.ref 37), some (.ref 15), none, none], [], _, _, _)
  refine s_ldA0 ok rfl ?_
  refine s_ldA1 ok rfl ?_
  refine s_getJ 0 ok rfl rfl rfl rfl ?_
  rw [hR.1.1]
  refine s_putJ 6 ok rfl rfl rfl rfl (fun q => by cases q) ?_
  refine s_ci ok rfl ?_
  refine s_stI2 ok rfl rfl ?_
  have p60 := hp.2.2.2.2.2.2.2.2.2.2.2.2.1
  have cn := cnP_in (w := w) hp
  refine lp_setPeople15 (E := E) (d := d) (k := k) (r := r) (l := l) (n := n) (h := h) hp hR (fun g u v hu hv ⟨f, f37, fn, ft, fa, fb⟩ => ?_) ((cnP p w).toNat + 1) 0 _ none rfl ⟨fun q hq => ?_, fun j hj => zv_at hj, zv_is, fun t t0 t1 => by omega, ?_, fun j j0 j1 => by omega⟩ (by omega) (by omega)
  · refine s_retV ok rfl ⟨rfl, g, rfl, f, f37, ⟨fn, fun t t0 t1 => ?_, ?_, fb⟩, fun t t0 t1 => ?_⟩
    · obtain ⟨q1, q2, q3, q4, q5, -⟩ := ft t t0 t1
      exact ⟨q1, q2, q3, q4, q5⟩
    · rw [fa, fL_end p60]
    · obtain ⟨-, -, -, -, -, q6, q7, q8⟩ := ft t t0 t1
      exact ⟨q6, q7, q8⟩
  · rw [zv_other (by omega)]
  · have : cM w 0 = 0 := if_neg (by omega)
    rw [this]
    rfl
