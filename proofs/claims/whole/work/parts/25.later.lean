/-! Questions that go through many days -/
theorem zif_f {c : Prop} [Decidable c] (q : (if c then (1 : Int) else 0) = 0) : ¬ c := fun z => by rw [if_pos z] at q; omega
theorem zif_t {c : Prop} [Decidable c] (q : ¬ (if c then (1 : Int) else 0) = 0) : c := Classical.byContradiction fun z => q (if_neg z)
/-- the minute at which t arrives, coming m minutes later -/
def lA (p : Int → Int) (w dd t m : Int) : Int := dA (zp p (19 + 5 * t + 4) (pBa p t + m)) w dd t
def sLat (A : Int → Int) : Nat → Int × Int
  | 0 => (0, A 0)
  | c + 1 => if A ((c : Int) + 1) < (sLat A c).2 then ((c : Int) + 1, A ((c : Int) + 1)) else sLat A c
theorem sLat_in {A : Int → Int} : ∀ c : Nat, (∀ m : Int, 0 ≤ m → m ≤ c → zb (A m)) → (0 ≤ (sLat A c).1 ∧ (sLat A c).1 ≤ c) ∧ zb (sLat A c).2
  | 0, hA => ⟨⟨Int.le_refl _, Int.le_refl _⟩, hA 0 (by omega) (by omega)⟩
  | c + 1, hA => by
    obtain ⟨⟨i1, i2⟩, i3⟩ := sLat_in c (fun m m0 m1 => hA m m0 (by omega))
    unfold sLat
    split
    · exact ⟨⟨by show 0 ≤ (c : Int) + 1; omega, by show (c : Int) + 1 ≤ ((c + 1 : Nat) : Int); omega⟩, hA _ (by omega) (by omega)⟩
    · exact ⟨⟨i1, by omega⟩, i3⟩
def sSlk (A : Int → Int) (now : Int) : Nat → Int
  | 0 => 0
  | c + 1 => if A ((c : Int) + 1) ≤ now then (c : Int) + 1 else sSlk A now c
theorem lA_zb {p : Int → Int} {w dd t m : Int} (hp : pOK p) (hw : zb w) (t0 : 0 ≤ t) (t1 : t < 8) (hb : pBa p t ≤ 300) (m0 : 0 ≤ m) (m1 : m ≤ 60) : zb (lA p w dd t m) ∧ pOK (zp p (19 + 5 * t + 4) (pBa p t + m)) := by
  have b0 := (hp.2.2.2.2.2.2.2.2.2.2.2.2.2.2.2.2 t t0 t1).2.2.2.2.1
  have hv := pOK_base hp (t := t) (v := pBa p t + m) t0 (by omega) (by omega)
  exact ⟨dA_zb hv hw, hv⟩
theorem lp_later {E : zE} {d : Nat} {k : Nat → Nat × Nat} {h : Nat → Int → Int} {r : Nat → Int → Option Nat} {l : Nat → Nat → Int64} {n : Nat} {Q : zQ} {p : Int → Int} {w dd : Int} (ep : h 60 = p) (ew : h 59 17 = w) (ed : h 59 18 = dd) (hd : dP h) (h2 : zb dd) {t : Int} (t0 : 0 ≤ t) (t2 : t < p 6) (hb : pBa p t ≤ 300) {what : Int} (w1 : zb what) (hQ : ∀ g, dE h g → Q (some (.int (iI (if what = 0 then (sLat (lA p w dd t) 60).1 else (sLat (lA p w dd t) 60).2)))) (zJ (k, g, r, l, n))) : ∀ c : Nat, ∀ (m : Nat) (g : Nat → Int → Int) (u : Option Value), dE h g → 60 < m + c → m ≤ 60 → zGo E (d + 8) M_X12_later 0 0 Q 36 ([some (.ref 59), some (.int (iI (t))), some (.int (iI (what))), some (.int (iI ((sLat (lA p w dd t) m).1))), some (.int (iI ((sLat (lA p w dd t) m).2))), some (.int (iI ((m : Int) + 1))), u], [], zJ (k, g, r, l, n), 0, 0) := by
  have ok := ok_X12_later
  intro c
  induction c with
  | zero =>
    intros
    omega
  | succ c ih =>
    intro m g u hE g1 g2
    subst ep
    subst ew
    subst ed
    have t1 : t < 8 := by have := hd.1.2.2.2.2.2.2.2.2.2.2.2.2.2.1; omega
    have i60 := dE.e60 hE
    obtain ⟨⟨a0, a1⟩, a2⟩ := sLat_in (A := lA (h 60) (h 59 17) (h 59 18) t) m (fun j j0 j1 => (lA_zb hd.1 hd.2.2.2.2 t0 t1 hb j0 (by omega)).1)
    have e3 : sLat (lA (h 60) (h 59 17) (h 59 18) t) (m + 1) = if dA (zp (h 60) (19 + 5 * t + 4) (pBa (h 60) t + ((m : Int) + 1))) (h 59 17) (h 59 18) t < (sLat (lA (h 60) (h 59 17) (h 59 18) t) m).2 then ((m : Int) + 1, dA (zp (h 60) (19 + 5 * t + 4) (pBa (h 60) t + ((m : Int) + 1))) (h 59 17) (h 59 18) t) else sLat (lA (h 60) (h 59 17) (h 59 18) t) m := rfl
    have hq : m = 60 → Q (some (.int (iI (if what = 0 then (sLat (lA (h 60) (h 59 17) (h 59 18) t) m).1 else (sLat (lA (h 60) (h 59 17) (h 59 18) t) m).2)))) (zJ (k, g, r, l, n)) := fun e => by rw [e]; exact hQ g hE
    generalize sLat (lA (h 60) (h 59 17) (h 59 18) t) m = q at *
    refine s_ldI5 ok rfl ?_
    refine s_ci ok rfl ?_
    refine s_c_gt ok rfl (by first | exact hb _ _ | exact ⟨by omega, by omega⟩) (by first | exact hb _ _ | exact ⟨by omega, by omega⟩) (fun c40 => ?_) (fun c40 => ?_)
    · refine s_ldI2 ok rfl ?_
      refine s_if_eq ok rfl w1 (fun c82 => ?_) (fun c82 => ?_)
      · refine s_ldI3 ok rfl ?_
        refine s_goto ok rfl ?_
        refine s_retI ok rfl (by have e := hq (by omega); (first | rw [if_pos c82] at e | rw [if_neg c82] at e); exact e)
      · refine s_ldI4 ok rfl ?_
        refine s_retI ok rfl (by have e := hq (by omega); (first | rw [if_pos c82] at e | rw [if_neg c82] at e); exact e)
    · refine s_ldA0 ok rfl ?_
      refine s_ldI1 ok rfl ?_
      refine s_ldA0 ok rfl ?_
      refine s_ldI1 ok rfl ?_
      refine s_callV ok rfl rfl rfl rfl rfl rfl (ct_baseOf t0 t1) ?_
      rw [i60]
      refine s_ldI5 ok rfl ?_
      refine s_add ok rfl ?_
      refine s_callVx ok rfl rfl rfl rfl rfl rfl (ct_arrivesWith (h := g) i60 hE.e17 hE.e18 hE.2.2 h2 t0 t2 (lA_zb hd.1 hd.2.2.2.2 t0 t1 hb (dd := h 59 18) (m := (m : Int) + 1) (by omega) (by omega)).2) (fun σ53 hσ53 => ?_)
      obtain ⟨g53, rfl, hg53⟩ := hσ53
      obtain ⟨f53, -⟩ := hg53
      refine s_stI6 ok rfl rfl ?_
      have z9 : zb (dA (zp (h 60) (19 + 5 * t + 4) (pBa (h 60) t + ((m : Int) + 1))) (h 59 17) (h 59 18) t) := (lA_zb hd.1 hd.2.2.2.2 t0 t1 hb (m := (m : Int) + 1) (by omega) (by omega)).1
      refine s_ldI6 ok rfl ?_
      refine s_ldI4 ok rfl ?_
      refine s_c_lt ok rfl z9 a2 (fun c62 => ?_) (fun c62 => ?_)
      · refine s_ldI5 ok rfl ?_
        refine s_stI3 ok rfl rfl ?_
        refine s_ldI6 ok rfl ?_
        refine s_stI4 ok rfl rfl ?_
        refine s_inc5 ok rfl rfl ?_
        refine s_goto ok rfl ?_
        have hh := ih (m + 1) g53 (some (.int (iI (dA (zp (h 60) (19 + 5 * t + 4) (pBa (h 60) t + ((m : Int) + 1))) (h 59 17) (h 59 18) t)))) (hE.tr f53) (by omega) (by omega)
        rw [e3] at hh
        first | rw [if_pos (by omega)] at hh | rw [if_neg (by omega)] at hh
        exact hh
      · refine s_goto ok rfl ?_
        refine s_inc5 ok rfl rfl ?_
        refine s_goto ok rfl ?_
        have hh := ih (m + 1) g53 (some (.int (iI (dA (zp (h 60) (19 + 5 * t + 4) (pBa (h 60) t + ((m : Int) + 1))) (h 59 17) (h 59 18) t)))) (hE.tr f53) (by omega) (by omega)
        rw [e3] at hh
        first | rw [if_pos (by omega)] at hh | rw [if_neg (by omega)] at hh
        exact hh
theorem ct_later {E : zE} {d : Nat} {k : Nat → Nat × Nat} {h : Nat → Int → Int} {r : Nat → Int → Option Nat} {l : Nat → Nat → Int64} {n : Nat} {p : Int → Int} {w dd : Int} (ep : h 60 = p) (ew : h 59 17 = w) (ed : h 59 18 = dd) (hd : dP h) (h2 : zb dd) {t what : Int} (zt : zb t) (w1 : zb what) (hb : ∀ s : Int, 0 ≤ s → s < 8 → pBa p s ≤ 300) : zCT E (d + 8) M_X12_later [.ref 59, .int (iI (t)), .int (iI (what))] (zJ (k, h, r, l, n)) 0 0 (zVx (.int (iI (if (0 ≤ t ∧ t < p 6) ∧ (0 ≤ what ∧ what ≤ 1) then (if what = 0 then (sLat (lA p w dd t) 60).1 else (sLat (lA p w dd t) 60).2) else -1))) (zG k r l n (dE h))) := by
  have ok := ok_X12_later
  refine zCT_of pn_X12_later (Nat.le_of_ble_eq_true rfl) ?_
  show zGo _ _ _ _ _ _ 0 ([some (.ref 59), some (.int (iI (t))), some (.int (iI (what))), none, none, none, none], [], _, _, _)
  subst ep
  subst ew
  subst ed
  refine s_ldA0 ok rfl ?_
  refine s_ldI1 ok rfl ?_
  refine s_callV ok rfl rfl rfl rfl rfl rfl (ct_isTraveller hd.1 zt) ?_
  refine s_if_eq ok rfl zif01 (fun c5 => ?_) (fun c5 => ?_)
  · refine s_ci ok rfl ?_
    refine s_retI ok rfl ⟨congrArg (fun z => some (Value.int (iI z))) (if_neg (fun q => by first | exact zif_f c14 q.2 | exact zif_f c5 q.1)).symm, h, rfl, dE.rf hd⟩
  · refine s_ldI2 ok rfl ?_
    refine s_ci ok rfl ?_
    refine s_ci ok rfl ?_
    refine s_callS ok rfl rfl rfl rfl (ct_isIn w1 ⟨by omega, by omega⟩ ⟨by omega, by omega⟩) ?_
    refine s_if_eq ok rfl zif01 (fun c14 => ?_) (fun c14 => ?_)
    · refine s_ci ok rfl ?_
      refine s_retI ok rfl ⟨congrArg (fun z => some (Value.int (iI z))) (if_neg (fun q => by first | exact zif_f c14 q.2 | exact zif_f c5 q.1)).symm, h, rfl, dE.rf hd⟩
    · have yt := zif_t c5
      have yw := zif_t c14
      obtain ⟨t0, t2⟩ := yt
      have t1 : t < 8 := by have := hd.1.2.2.2.2.2.2.2.2.2.2.2.2.2.1; omega
      have hb9 := hb t t0 t1
      refine s_ci ok rfl ?_
      refine s_stI3 ok rfl rfl ?_
      refine s_ldA0 ok rfl ?_
      refine s_ldI1 ok rfl ?_
      refine s_ldA0 ok rfl ?_
      refine s_ldI1 ok rfl ?_
      refine s_callV ok rfl rfl rfl rfl rfl rfl (ct_baseOf t0 t1) ?_
      refine s_callVx ok rfl rfl rfl rfl rfl rfl (ct_arrivesWith (h := h) rfl rfl rfl hd h2 t0 t2 (by have z := (lA_zb hd.1 hd.2.2.2.2 t0 t1 hb9 (dd := h 59 18) (m := 0) (by omega) (by omega)).2; rw [Int.add_zero] at z; exact z)) (fun σ28 hσ28 => ?_)
      obtain ⟨g28, rfl, hg28⟩ := hσ28
      obtain ⟨f28, -⟩ := hg28
      refine s_stI4 ok rfl rfl ?_
      refine s_ci ok rfl ?_
      refine s_stI5 ok rfl rfl ?_
      have z0 : lA (h 60) (h 59 17) (h 59 18) t 0 = dA (zp (h 60) (19 + 5 * t + 4) (pBa (h 60) t)) (h 59 17) (h 59 18) t := by unfold lA; rw [Int.add_zero]
      have hh := lp_later (E := E) (d := d) (k := k) (r := r) (l := l) (n := n) (h := h) rfl rfl rfl hd h2 t0 t2 hb9 w1 (Q := zVx (.int (iI (if (0 ≤ t ∧ t < h 60 6) ∧ (0 ≤ what ∧ what ≤ 1) then (if what = 0 then (sLat (lA (h 60) (h 59 17) (h 59 18) t) 60).1 else (sLat (lA (h 60) (h 59 17) (h 59 18) t) 60).2) else -1))) (zG k r l n (dE h))) (fun g hE => ⟨by rw [if_pos (show (0 ≤ t ∧ t < h 60 6) ∧ (0 ≤ what ∧ what ≤ 1) from ⟨⟨t0, t2⟩, yw⟩)], g, rfl, hE⟩) 61 0 g28 none f28 (by omega) (by omega)
      have e0 : sLat (lA (h 60) (h 59 17) (h 59 18) t) 0 = (0, lA (h 60) (h 59 17) (h 59 18) t 0) := rfl
      rw [e0] at hh
      dsimp only at hh
      rw [z0] at hh
      exact hh
theorem lp_slack {E : zE} {d : Nat} {k : Nat → Nat × Nat} {h : Nat → Int → Int} {r : Nat → Int → Option Nat} {l : Nat → Nat → Int64} {n : Nat} {Q : zQ} {p : Int → Int} {w dd : Int} (ep : h 60 = p) (ew : h 59 17 = w) (ed : h 59 18 = dd) (hd : dP h) (h2 : zb dd) {t : Int} (t0 : 0 ≤ t) (t2 : t < p 6) (hb : pBa p t ≤ 300) {now : Int} (w1 : zb now) (hQ : ∀ g, dE h g → Q (some (.int (iI (sSlk (lA p w dd t) now 60)))) (zJ (k, g, r, l, n))) : ∀ c : Nat, ∀ (m : Nat) (g : Nat → Int → Int), dE h g → 60 < m + c → m ≤ 60 → zGo E (d + 8) M_X12_slack 0 0 Q 26 ([some (.ref 59), some (.int (iI (t))), some (.int (iI (now))), some (.int (iI (sSlk (lA p w dd t) now m))), some (.int (iI ((m : Int) + 1)))], [], zJ (k, g, r, l, n), 0, 0) := by
  have ok := ok_X12_slack
  intro c
  induction c with
  | zero =>
    intros
    omega
  | succ c ih =>
    intro m g hE g1 g2
    subst ep
    subst ew
    subst ed
    have t1 : t < 8 := by have := hd.1.2.2.2.2.2.2.2.2.2.2.2.2.2.1; omega
    have i60 := dE.e60 hE
    have e3 : sSlk (lA (h 60) (h 59 17) (h 59 18) t) now (m + 1) = if dA (zp (h 60) (19 + 5 * t + 4) (pBa (h 60) t + ((m : Int) + 1))) (h 59 17) (h 59 18) t ≤ now then (m : Int) + 1 else sSlk (lA (h 60) (h 59 17) (h 59 18) t) now m := rfl
    have hq : m = 60 → Q (some (.int (iI (sSlk (lA (h 60) (h 59 17) (h 59 18) t) now m)))) (zJ (k, g, r, l, n)) := fun e => by rw [e]; exact hQ g hE
    generalize sSlk (lA (h 60) (h 59 17) (h 59 18) t) now m = q at *
    refine s_ldI4 ok rfl ?_
    refine s_ci ok rfl ?_
    refine s_c_gt ok rfl (by first | exact hb _ _ | exact ⟨by omega, by omega⟩) (by first | exact hb _ _ | exact ⟨by omega, by omega⟩) (fun c30 => ?_) (fun c30 => ?_)
    · refine s_ldI3 ok rfl ?_
      refine s_retI ok rfl (hq (by omega))
    · refine s_ldA0 ok rfl ?_
      refine s_ldI1 ok rfl ?_
      refine s_ldA0 ok rfl ?_
      refine s_ldI1 ok rfl ?_
      refine s_callV ok rfl rfl rfl rfl rfl rfl (ct_baseOf t0 t1) ?_
      rw [i60]
      refine s_ldI4 ok rfl ?_
      refine s_add ok rfl ?_
      refine s_callVx ok rfl rfl rfl rfl rfl rfl (ct_arrivesWith (h := g) i60 hE.e17 hE.e18 hE.2.2 h2 t0 t2 (lA_zb hd.1 hd.2.2.2.2 t0 t1 hb (dd := h 59 18) (m := (m : Int) + 1) (by omega) (by omega)).2) (fun σ43 hσ43 => ?_)
      obtain ⟨g43, rfl, hg43⟩ := hσ43
      obtain ⟨f43, -⟩ := hg43
      have z9 : zb (dA (zp (h 60) (19 + 5 * t + 4) (pBa (h 60) t + ((m : Int) + 1))) (h 59 17) (h 59 18) t) := (lA_zb hd.1 hd.2.2.2.2 t0 t1 hb (m := (m : Int) + 1) (by omega) (by omega)).1
      refine s_ldI2 ok rfl ?_
      refine s_c_gt ok rfl z9 w1 (fun c47 => ?_) (fun c47 => ?_)
      · refine s_inc4 ok rfl rfl ?_
        refine s_goto ok rfl ?_
        have hh := ih (m + 1) g43 (hE.tr f43) (by omega) (by omega)
        rw [e3] at hh
        first | rw [if_pos (by omega)] at hh | rw [if_neg (by omega)] at hh
        exact hh
      · refine s_ldI4 ok rfl ?_
        refine s_stI3 ok rfl rfl ?_
        refine s_inc4 ok rfl rfl ?_
        refine s_goto ok rfl ?_
        have hh := ih (m + 1) g43 (hE.tr f43) (by omega) (by omega)
        rw [e3] at hh
        first | rw [if_pos (by omega)] at hh | rw [if_neg (by omega)] at hh
        exact hh
theorem ct_slack {E : zE} {d : Nat} {k : Nat → Nat × Nat} {h : Nat → Int → Int} {r : Nat → Int → Option Nat} {l : Nat → Nat → Int64} {n : Nat} {p : Int → Int} {w dd : Int} (ep : h 60 = p) (ew : h 59 17 = w) (ed : h 59 18 = dd) (hd : dP h) (h2 : zb dd) {t : Int} (zt : zb t) (hb : ∀ s : Int, 0 ≤ s → s < 8 → pBa p s ≤ 300) : zCT E (d + 8) M_X12_slack [.ref 59, .int (iI (t))] (zJ (k, h, r, l, n)) 0 0 (zVx (.int (iI (if 0 ≤ t ∧ t < p 6 then sSlk (lA p w dd t) ((lA p w dd t) 0) 60 else -1))) (zG k r l n (dE h))) := by
  have ok := ok_X12_slack
  refine zCT_of pn_X12_slack (Nat.le_of_ble_eq_true rfl) ?_
  show zGo _ _ _ _ _ _ 0 ([some (.ref 59), some (.int (iI (t))), none, none, none], [], _, _, _)
  subst ep
  subst ew
  subst ed
  refine s_ldA0 ok rfl ?_
  refine s_ldI1 ok rfl ?_
  refine s_callV ok rfl rfl rfl rfl rfl rfl (ct_isTraveller hd.1 zt) ?_
  refine s_if_eq ok rfl zif01 (fun c5 => ?_) (fun c5 => ?_)
  · refine s_ci ok rfl ?_
    refine s_retI ok rfl ⟨congrArg (fun z => some (Value.int (iI z))) (if_neg (fun q => zif_f c5 q)).symm, h, rfl, dE.rf hd⟩
  · have yt := zif_t c5
    obtain ⟨t0, t2⟩ := yt
    have t1 : t < 8 := by have := hd.1.2.2.2.2.2.2.2.2.2.2.2.2.2.1; omega
    have hb9 := hb t t0 t1
    refine s_ldA0 ok rfl ?_
    refine s_ldI1 ok rfl ?_
    refine s_ldA0 ok rfl ?_
    refine s_ldI1 ok rfl ?_
    refine s_callV ok rfl rfl rfl rfl rfl rfl (ct_baseOf t0 t1) ?_
    refine s_callVx ok rfl rfl rfl rfl rfl rfl (ct_arrivesWith (h := h) rfl rfl rfl hd h2 t0 t2 (by have z := (lA_zb hd.1 hd.2.2.2.2 t0 t1 hb9 (dd := h 59 18) (m := 0) (by omega) (by omega)).2; rw [Int.add_zero] at z; exact z)) (fun σ17 hσ17 => ?_)
    obtain ⟨g17, rfl, hg17⟩ := hσ17
    obtain ⟨f17, -⟩ := hg17
    refine s_stI2 ok rfl rfl ?_
    refine s_ci ok rfl ?_
    refine s_stI3 ok rfl rfl ?_
    refine s_ci ok rfl ?_
    refine s_stI4 ok rfl rfl ?_
    have z0 : lA (h 60) (h 59 17) (h 59 18) t 0 = dA (zp (h 60) (19 + 5 * t + 4) (pBa (h 60) t)) (h 59 17) (h 59 18) t := by unfold lA; rw [Int.add_zero]
    have hh := lp_slack (E := E) (d := d) (k := k) (r := r) (l := l) (n := n) (h := h) rfl rfl rfl hd h2 t0 t2 hb9 (now := lA (h 60) (h 59 17) (h 59 18) t 0) (lA_zb hd.1 hd.2.2.2.2 t0 t1 hb9 (by omega) (by omega)).1 (Q := zVx (.int (iI (if 0 ≤ t ∧ t < h 60 6 then sSlk (lA (h 60) (h 59 17) (h 59 18) t) (lA (h 60) (h 59 17) (h 59 18) t 0) 60 else -1))) (zG k r l n (dE h))) (fun g hE => ⟨by rw [if_pos (show 0 ≤ t ∧ t < h 60 6 from ⟨t0, t2⟩)], g, rfl, hE⟩) 61 0 g17 f17 (by omega) (by omega)
    rw [← z0]
    exact hh
