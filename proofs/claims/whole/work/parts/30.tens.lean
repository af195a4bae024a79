/-! tens, odds; sure; whose -/
/-- of the first c: how many arrive, and their minutes together -/
def sTen (A : Int → Int) : Nat → Int × Int
  | 0 => (0, 0)
  | c + 1 => if A c = 2000 then sTen A c else ((sTen A c).1 + 1, (sTen A c).2 + A c)
theorem dL_59 {h g : Nat → Int → Int} {j v : Int} (f : dL h g) (hj : j = 24 ∨ j = 25 ∨ j = 28) : dL h (zv g 59 j v) := by
  refine ⟨fun m h1 h2 => ?_, fun b hb => ?_, ⟨f.2.2.1, f.2.2.2.1, f.2.2.2.2.1, f.2.2.2.2.2.1, ?_⟩⟩
  · rw [zv_other h2]
    exact f.1 m h1 h2
  · rw [zv_at (by omega)]
    exact f.2.1 b hb
  · rw [zv_at (by omega)]
    exact f.2.2.2.2.2.2
theorem dL.rf {h : Nat → Int → Int} (hd : dP h) : dL h h := (dE.rf hd).l
theorem lp_tens {E : zE} {d : Nat} {k : Nat → Nat × Nat} {h : Nat → Int → Int} {r : Nat → Int → Option Nat} {l : Nat → Nat → Int64} {n : Nat} {Q : zQ} {p : Int → Int} {w dd : Int} (ep : h 60 = p) (ew : h 59 17 = w) (ed : h 59 18 = dd) (hd : dP h) (h2 : zb dd) {t : Int} (t0 : 0 ≤ t) (t2 : t < p 6) (hb : pBa p t ≤ 300) (hQ : ∀ g, dL h g → g 59 24 = (sTen (lA p w dd t) 10).1 → g 59 25 = (sTen (lA p w dd t) 10).2 → Q none (zJ (k, g, r, l, n))) : ∀ c : Nat, ∀ (m : Nat) (g : Nat → Int → Int) (u : Option Value), dL h g → g 59 24 = (sTen (lA p w dd t) m).1 → g 59 25 = (sTen (lA p w dd t) m).2 → 10 < m + c → m ≤ 10 → zGo E (d + 8) M_X12_tens 0 0 Q 12 ([some (.ref 59), some (.int (iI (t))), some (.int (iI ((m : Int)))), u], [], zJ (k, g, r, l, n), 0, 0) := by
  have ok := ok_X12_tens
  intro c
  induction c with
  | zero =>
    intros
    omega
  | succ c ih =>
    intro m g u hE y24 y25 g1 g2
    subst ep
    subst ew
    subst ed
    have t1 : t < 8 := by have := hd.1.2.2.2.2.2.2.2.2.2.2.2.2.2.1; omega
    have i60 := dL.e60 hE
    have e3 : sTen (lA (h 60) (h 59 17) (h 59 18) t) (m + 1) = if dA (zp (h 60) (19 + 5 * t + 4) (pBa (h 60) t + (m : Int))) (h 59 17) (h 59 18) t = 2000 then sTen (lA (h 60) (h 59 17) (h 59 18) t) m else ((sTen (lA (h 60) (h 59 17) (h 59 18) t) m).1 + 1, (sTen (lA (h 60) (h 59 17) (h 59 18) t) m).2 + dA (zp (h 60) (19 + 5 * t + 4) (pBa (h 60) t + (m : Int))) (h 59 17) (h 59 18) t) := rfl
    have hq : m = 10 → Q none (zJ (k, g, r, l, n)) := fun e => hQ g hE (by rw [y24, e]) (by rw [y25, e])
    generalize sTen (lA (h 60) (h 59 17) (h 59 18) t) m = q at *
    refine s_ldI2 ok rfl ?_
    refine s_ci ok rfl ?_
    refine s_c_ge ok rfl (by first | exact hb _ _ | exact ⟨by omega, by omega⟩) (by first | exact hb _ _ | exact ⟨by omega, by omega⟩) (fun c15 => ?_) (fun c15 => ?_)
    · refine s_retV ok rfl (hq (by omega))
    · refine s_ldA0 ok rfl ?_
      refine s_ldI1 ok rfl ?_
      refine s_ldA0 ok rfl ?_
      refine s_ldI1 ok rfl ?_
      refine s_callV ok rfl rfl rfl rfl rfl rfl (ct_baseOf t0 t1) ?_
      rw [i60]
      refine s_ldI2 ok rfl ?_
      refine s_add ok rfl ?_
      refine s_callVx ok rfl rfl rfl rfl rfl rfl (ct_arrivesWith (h := g) i60 hE.e17 hE.e18 hE.2.2 h2 t0 t2 (lA_zb hd.1 hd.2.2.2.2 t0 t1 hb (dd := h 59 18) (m := (m : Int)) (by omega) (by omega)).2) (fun σ27 hσ27 => ?_)
      obtain ⟨g27, rfl, hg27⟩ := hσ27
      obtain ⟨f27, -⟩ := hg27
      have z9 : zb (dA (zp (h 60) (19 + 5 * t + 4) (pBa (h 60) t + (m : Int))) (h 59 17) (h 59 18) t) := (lA_zb hd.1 hd.2.2.2.2 t0 t1 hb (dd := h 59 18) (m := (m : Int)) (by omega) (by omega)).1
      have w24 : g27 59 24 = q.1 := (f27.2.1 24 (by omega)).trans y24
      have w25 : g27 59 25 = q.2 := (f27.2.1 25 (by omega)).trans y25
      have v25 : zv g27 59 24 (g27 59 24 + 1) 59 25 = q.2 := (zv_at (by omega)).trans w25
      refine s_stI3 ok rfl rfl ?_
      refine s_ldI3 ok rfl ?_
      refine s_ci ok rfl ?_
      refine s_c_eq ok rfl z9 ⟨by omega, by omega⟩ (fun c35 => ?_) (fun c35 => ?_)
      · refine s_goto ok rfl ?_
        refine s_inc2 ok rfl rfl ?_
        refine s_goto ok rfl ?_
        rw [if_pos c35] at e3
        exact ih (m + 1) g27 _ (hE.tr f27.l) (by rw [e3]; exact w24) (by rw [e3]; exact w25) (by omega) (by omega)
      · refine s_ldA0 ok rfl ?_
        refine s_dupA ok rfl ?_
        refine s_getJ 24 ok rfl rfl rfl rfl ?_
        refine s_ci ok rfl ?_
        refine s_add ok rfl ?_
        refine s_putJ 24 ok rfl rfl rfl rfl (fun q => by cases q) ?_
        refine s_ldA0 ok rfl ?_
        refine s_dupA ok rfl ?_
        refine s_getJ 25 ok rfl rfl rfl rfl ?_
        refine s_ldI3 ok rfl ?_
        refine s_add ok rfl ?_
        refine s_putJ 25 ok rfl rfl rfl rfl (fun q => by cases q) ?_
        refine s_inc2 ok rfl rfl ?_
        refine s_goto ok rfl ?_
        rw [if_neg c35] at e3
        exact ih (m + 1) _ _ (dL_59 (dL_59 (hE.tr f27.l) (by omega)) (by omega)) (by rw [e3, zv_at (by omega), zv_is, w24]) (by rw [e3, zv_is, v25]) (by omega) (by omega)
theorem ct_tens {E : zE} {d : Nat} {k : Nat → Nat × Nat} {h : Nat → Int → Int} {r : Nat → Int → Option Nat} {l : Nat → Nat → Int64} {n : Nat} {p : Int → Int} {w dd : Int} (ep : h 60 = p) (ew : h 59 17 = w) (ed : h 59 18 = dd) (hd : dP h) (h2 : zb dd) {t : Int} (t0 : 0 ≤ t) (t2 : t < p 6) (hb : pBa p t ≤ 300) : zCT E (d + 8) M_X12_tens [.ref 59, .int (iI (t))] (zJ (k, h, r, l, n)) 0 0 (zUx (zG k r l n (fun g => dL h g ∧ g 59 24 = (sTen (lA p w dd t) 10).1 ∧ g 59 25 = (sTen (lA p w dd t) 10).2))) := by
  have ok := ok_X12_tens
  refine zCT_of pn_X12_tens (Nat.le_of_ble_eq_true rfl) ?_
  show zGo _ _ _ _ _ _ 0 ([some (.ref 59), some (.int (iI (t))), none, none], [], _, _, _)
  subst ep
  subst ew
  subst ed
  refine s_ldA0 ok rfl ?_
  refine s_ci ok rfl ?_
  refine s_putJ 24 ok rfl rfl rfl rfl (fun q => by cases q) ?_
  refine s_ldA0 ok rfl ?_
  refine s_ci ok rfl ?_
  refine s_putJ 25 ok rfl rfl rfl rfl (fun q => by cases q) ?_
  refine s_ci ok rfl ?_
  refine s_stI2 ok rfl rfl ?_
  exact lp_tens (E := E) (d := d) (k := k) (r := r) (l := l) (n := n) (h := h) rfl rfl rfl hd h2 t0 t2 hb (Q := zUx (zG k r l n (fun g => dL h g ∧ g 59 24 = (sTen (lA (h 60) (h 59 17) (h 59 18) t) 10).1 ∧ g 59 25 = (sTen (lA (h 60) (h 59 17) (h 59 18) t) 10).2))) (fun g hE a b => ⟨rfl, g, rfl, hE, a, b⟩) 11 0 _ none (dL_59 (dL_59 (dL.rf hd) (by omega)) (by omega)) (by rw [zv_at (by omega), zv_is]; rfl) (by rw [zv_is]; rfl) (by omega) (by omega)
theorem ct_odds {E : zE} {d : Nat} {k : Nat → Nat × Nat} {h : Nat → Int → Int} {r : Nat → Int → Option Nat} {l : Nat → Nat → Int64} {n : Nat} {p : Int → Int} {w dd : Int} (ep : h 60 = p) (ew : h 59 17 = w) (ed : h 59 18 = dd) (hd : dP h) (h2 : zb dd) {t : Int} (zt : zb t) (hb : ∀ s : Int, 0 ≤ s → s < 8 → pBa p s ≤ 300) : zCT E (d + 9) M_X12_odds [.ref 59, .int (iI (t))] (zJ (k, h, r, l, n)) 0 0 (zVx (.int (iI (if 0 ≤ t ∧ t < p 6 then (sTen (lA p w dd t) 10).1 else -1))) (zG k r l n (dL h))) := by
  have ok := ok_X12_odds
  refine zCT_of pn_X12_odds (Nat.le_of_ble_eq_true rfl) ?_
  show zGo _ _ _ _ _ _ 0 ([some (.ref 59), some (.int (iI (t)))], [], _, _, _)
  subst ep
  subst ew
  subst ed
  refine s_ldA0 ok rfl ?_
  refine s_ldI1 ok rfl ?_
  refine s_callV ok rfl rfl rfl rfl rfl rfl (ct_isTraveller hd.1 zt) ?_
  refine s_if_eq ok rfl zif01 (fun c5 => ?_) (fun c5 => ?_)
  · refine s_ci ok rfl ?_
    refine s_retI ok rfl ⟨congrArg (fun z => some (Value.int (iI z))) (if_neg (fun q => zif_f c5 q)).symm, _, rfl, dL.rf hd⟩
  · have yt := zif_t c5
    have t1 : t < 8 := by have := hd.1.2.2.2.2.2.2.2.2.2.2.2.2.2.1; omega
    refine s_ldA0 ok rfl ?_
    refine s_ldI1 ok rfl ?_
    refine s_callVvx ok rfl rfl rfl rfl rfl rfl (ct_tens (h := h) rfl rfl rfl hd h2 yt.1 yt.2 (hb t yt.1 t1)) (fun σ12 hσ12 => ?_)
    obtain ⟨g12, rfl, hg12⟩ := hσ12
    obtain ⟨f12, q12, -⟩ := hg12
    refine s_ldA0 ok rfl ?_
    refine s_getJ 24 ok rfl rfl rfl rfl ?_
    refine s_retI ok rfl ⟨congrArg (fun z => some (Value.int (iI z))) (q12.trans (if_pos yt).symm), _, rfl, f12⟩
