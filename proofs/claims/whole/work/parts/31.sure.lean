/-! sure, whose -/
/-- the bit of the train that t takes -/
def sSet (p : Int → Int) (w dd t : Int) : Int32 := if dN p w dd 69 t < 0 then iI 0 else iI 1 <<< (iI (dN p w dd 69 t) &&& 31)
def sSu (B : Int → Int32) : Nat → Int32 × Int32
  | 0 => (iI 4095, iI 0)
  | c + 1 => ((sSu B c).1 &&& B c, (sSu B c).2 ||| B c)
def sSuB (p : Int → Int) (w dd t m : Int) : Int32 := sSet (zp p (19 + 5 * t + 4) (pBa p t + m)) w dd t
/-- those without whom t comes earlier, among the first c -/
def sWh (A : Int → Int) (now t : Int) : Nat → Int32
  | 0 => iI 0
  | c + 1 => if (c : Int) = t then sWh A now t c else sWh A now t c ||| (if A c < now then iI 1 <<< (iI (c : Int) &&& 31) else iI 0)
theorem dE_17 {h g g2 : Nat → Int → Int} {a b : Int} (f : dE (zv h 59 17 a) g) (f2 : dE (zv g 59 17 b) g2) : dE (zv h 59 17 b) g2 := by
  refine ⟨fun m h1 h2 => ?_, fun j hj => ?_, f2.2.2⟩
  · rw [f2.1 m h1 h2, zv_other h2, f.1 m h1 h2, zv_other h2, zv_other h2]
  · rw [f2.2.1 j hj]
    by_cases c : j = 17
    · rw [c, zv_is, zv_is]
    · rw [zv_at c, f.2.1 j hj, zv_at c, zv_at c]
theorem dE_17b {h g : Nat → Int → Int} {a b : Int} (hb : h 59 17 = b) (zb9 : zb b) (f : dE (zv h 59 17 a) g) : dE h (zv g 59 17 b) := by
  refine ⟨fun m h1 h2 => ?_, fun j hj => ?_, ⟨f.2.2.1, f.2.2.2.1, f.2.2.2.2.1, f.2.2.2.2.2.1, ?_⟩⟩
  · rw [zv_other h2, f.1 m h1 h2, zv_other h2]
  · by_cases c : j = 17
    · rw [c, zv_is, hb]
    · rw [zv_at c, f.2.1 j hj, zv_at c]
  · rw [zv_is]
    exact zb9
theorem dP_17 {g : Nat → Int → Int} {b : Int} (hd : dP g) (zb9 : zb b) : dP (zv g 59 17 b) := ⟨hd.1, hd.2.1, hd.2.2.1, hd.2.2.2.1, by rw [zv_is]; exact zb9⟩
theorem lp_sure {E : zE} {d : Nat} {k : Nat → Nat × Nat} {h : Nat → Int → Int} {r : Nat → Int → Option Nat} {l : Nat → Nat → Int64} {n : Nat} {Q : zQ} {p : Int → Int} {w dd : Int} (ep : h 60 = p) (ew : h 59 17 = w) (ed : h 59 18 = dd) (hd : dP h) (h2 : zb dd) {t : Int} (t0 : 0 ≤ t) (t2 : t < p 6) (hb : pBa p t ≤ 300) {what : Int} (w1 : zb what) (hQ : ∀ g, dE h g → Q (some (.int (if what = 0 then (sSu (sSuB p w dd t) 10).1 else (sSu (sSuB p w dd t) 10).2))) (zJ (k, g, r, l, n))) : ∀ c : Nat, ∀ (m : Nat) (g : Nat → Int → Int) (u v : Option Value), dE h g → 10 < m + c → m ≤ 10 → zGo E (d + 8) M_X12_sure 0 0 Q 29 ([some (.ref 59), some (.int (iI (t))), some (.int (iI (what))), some (.int (sSu (sSuB p w dd t) m).1), some (.int (sSu (sSuB p w dd t) m).2), some (.int (iI ((m : Int)))), u, v], [], zJ (k, g, r, l, n), 0, 0) := by
  have ok := ok_X12_sure
  intro c
  induction c with
  | zero =>
    intros
    omega
  | succ c ih =>
    intro m g u v hE g1 g2
    subst ep
    subst ew
    subst ed
    have t1 : t < 8 := by have := hd.1.2.2.2.2.2.2.2.2.2.2.2.2.2.1; omega
    have i60 := dE.e60 hE
    have e3 : sSu (sSuB (h 60) (h 59 17) (h 59 18) t) (m + 1) = ((sSu (sSuB (h 60) (h 59 17) (h 59 18) t) m).1 &&& sSet (zp (h 60) (19 + 5 * t + 4) (pBa (h 60) t + (m : Int))) (h 59 17) (h 59 18) t, (sSu (sSuB (h 60) (h 59 17) (h 59 18) t) m).2 ||| sSet (zp (h 60) (19 + 5 * t + 4) (pBa (h 60) t + (m : Int))) (h 59 17) (h 59 18) t) := rfl
    have hq : m = 10 → Q (some (.int (if what = 0 then (sSu (sSuB (h 60) (h 59 17) (h 59 18) t) m).1 else (sSu (sSuB (h 60) (h 59 17) (h 59 18) t) m).2))) (zJ (k, g, r, l, n)) := fun e => by rw [e]; exact hQ g hE
    generalize sSu (sSuB (h 60) (h 59 17) (h 59 18) t) m = q at *
    refine s_ldI5 ok rfl ?_
    refine s_ci ok rfl ?_
    refine s_c_ge ok rfl (by first | exact hb _ _ | exact ⟨by omega, by omega⟩) (by first | exact hb _ _ | exact ⟨by omega, by omega⟩) (fun c33 => ?_) (fun c33 => ?_)
    · refine s_ldI2 ok rfl ?_
      refine s_if_eq ok rfl w1 (fun c93 => ?_) (fun c93 => ?_)
      · refine s_ldI3 ok rfl ?_
        refine s_goto ok rfl ?_
        refine s_retI ok rfl (by have e := hq (by omega); (first | rw [if_pos c93] at e | rw [if_neg c93] at e); exact e)
      · refine s_ldI4 ok rfl ?_
        refine s_retI ok rfl (by have e := hq (by omega); (first | rw [if_pos c93] at e | rw [if_neg c93] at e); exact e)
    · have hv9 := (lA_zb hd.1 hd.2.2.2.2 t0 t1 hb (dd := h 59 18) (m := (m : Int)) (by omega) (by omega)).2
      refine s_ldA0 ok rfl ?_
      refine s_ldI1 ok rfl ?_
      refine s_ldA0 ok rfl ?_
      refine s_ldI1 ok rfl ?_
      refine s_callV ok rfl rfl rfl rfl rfl rfl (ct_baseOf t0 t1) ?_
      rw [i60]
      refine s_ldI5 ok rfl ?_
      refine s_add ok rfl ?_
      refine s_callVx ok rfl rfl rfl rfl rfl rfl (ct_arrivesWith (h := g) i60 hE.e17 hE.e18 hE.2.2 h2 t0 t2 hv9) (fun σ46 hσ46 => ?_)
      obtain ⟨g46, rfl, hg46⟩ := hσ46
      obtain ⟨f46, q46⟩ := hg46
      have e69 : g46 69 t = dN (zp (h 60) (19 + 5 * t + 4) (pBa (h 60) t + (m : Int))) (h 59 17) (h 59 18) 69 t := q46.1 69 (by omega) (by omega) t t0 (by rw [zp_ne (by omega)]; exact t2)
      have bb := (dB_dN (dd := h 59 18) hv9 hd.2.2.2.2 t).1
      refine s_stI6 ok rfl rfl ?_
      refine s_ldA0 ok rfl ?_
      refine s_getF ok rfl rfl rfl rfl ?_
      refine s_ldI1 ok rfl ?_
      refine s_iald ok rfl (by exact rfl) (by exact rfl) (by omega) (by omega) ?_
      rw [e69]
      refine s_if_ge ok rfl ⟨by omega, by omega⟩ (fun c57 => ?_) (fun c57 => ?_)
      · have eB : sSet (zp (h 60) (19 + 5 * t + 4) (pBa (h 60) t + (m : Int))) (h 59 17) (h 59 18) t = iI 1 <<< (iI (dN (zp (h 60) (19 + 5 * t + 4) (pBa (h 60) t + (m : Int))) (h 59 17) (h 59 18) 69 t) &&& 31) := if_neg (by omega)
        refine s_ci ok rfl ?_
        refine s_ldA0 ok rfl ?_
        refine s_getF ok rfl rfl rfl rfl ?_
        refine s_ldI1 ok rfl ?_
        refine s_iald ok rfl (by exact rfl) (by exact rfl) (by omega) (by omega) ?_
        rw [e69]
        refine s_bin ok rfl (by rfl) ?_
        refine s_stI7 ok rfl rfl ?_
        refine s_ldI3 ok rfl ?_
        refine s_ldI7 ok rfl ?_
        refine s_bin ok rfl (by rfl) ?_
        refine s_stI3 ok rfl rfl ?_
        refine s_ldI4 ok rfl ?_
        refine s_ldI7 ok rfl ?_
        refine s_bin ok rfl (by rfl) ?_
        refine s_stI4 ok rfl rfl ?_
        refine s_inc5 ok rfl rfl ?_
        refine s_goto ok rfl ?_
        have hh := fun u9 v9 => ih (m + 1) g46 u9 v9 (hE.tr f46) (by omega) (by omega)
        rw [e3, eB] at hh
        exact hh _ _
      · have eB : sSet (zp (h 60) (19 + 5 * t + 4) (pBa (h 60) t + (m : Int))) (h 59 17) (h 59 18) t = iI 0 := if_pos (by omega)
        refine s_ci ok rfl ?_
        refine s_goto ok rfl ?_
        refine s_stI7 ok rfl rfl ?_
        refine s_ldI3 ok rfl ?_
        refine s_ldI7 ok rfl ?_
        refine s_bin ok rfl (by rfl) ?_
        refine s_stI3 ok rfl rfl ?_
        refine s_ldI4 ok rfl ?_
        refine s_ldI7 ok rfl ?_
        refine s_bin ok rfl (by rfl) ?_
        refine s_stI4 ok rfl rfl ?_
        refine s_inc5 ok rfl rfl ?_
        refine s_goto ok rfl ?_
        have hh := fun u9 v9 => ih (m + 1) g46 u9 v9 (hE.tr f46) (by omega) (by omega)
        rw [e3, eB] at hh
        exact hh _ _
theorem ct_sure {E : zE} {d : Nat} {k : Nat → Nat × Nat} {h : Nat → Int → Int} {r : Nat → Int → Option Nat} {l : Nat → Nat → Int64} {n : Nat} {p : Int → Int} {w dd : Int} (ep : h 60 = p) (ew : h 59 17 = w) (ed : h 59 18 = dd) (hd : dP h) (h2 : zb dd) {t what : Int} (zt : zb t) (w1 : zb what) (hb : ∀ s : Int, 0 ≤ s → s < 8 → pBa p s ≤ 300) : zCT E (d + 8) M_X12_sure [.ref 59, .int (iI (t)), .int (iI (what))] (zJ (k, h, r, l, n)) 0 0 (zVx (.int (if (0 ≤ t ∧ t < p 6) ∧ (0 ≤ what ∧ what ≤ 1) then (if what = 0 then (sSu (sSuB p w dd t) 10).1 else (sSu (sSuB p w dd t) 10).2) else iI (-1))) (zG k r l n (dE h))) := by
  have ok := ok_X12_sure
  refine zCT_of pn_X12_sure (Nat.le_of_ble_eq_true rfl) ?_
  show zGo _ _ _ _ _ _ 0 ([some (.ref 59), some (.int (iI (t))), some (.int (iI (what))), none, none, none, none, none], [], _, _, _)
  subst ep
  subst ew
  subst ed
  refine s_ldA0 ok rfl ?_
  refine s_ldI1 ok rfl ?_
  refine s_callV ok rfl rfl rfl rfl rfl rfl (ct_isTraveller hd.1 zt) ?_
  refine s_if_eq ok rfl zif01 (fun c5 => ?_) (fun c5 => ?_)
  · refine s_ci ok rfl ?_
    refine s_retI ok rfl ⟨congrArg (fun z => some (Value.int z)) (if_neg (fun q => by first | exact zif_f c14 q.2 | exact zif_f c5 q.1)).symm, _, rfl, dE.rf hd⟩
  · refine s_ldI2 ok rfl ?_
    refine s_ci ok rfl ?_
    refine s_ci ok rfl ?_
    refine s_callS ok rfl rfl rfl rfl (ct_isIn w1 ⟨by omega, by omega⟩ ⟨by omega, by omega⟩) ?_
    refine s_if_eq ok rfl zif01 (fun c14 => ?_) (fun c14 => ?_)
    · refine s_ci ok rfl ?_
      refine s_retI ok rfl ⟨congrArg (fun z => some (Value.int z)) (if_neg (fun q => by first | exact zif_f c14 q.2 | exact zif_f c5 q.1)).symm, _, rfl, dE.rf hd⟩
    · refine s_ci ok rfl ?_
      refine s_stI3 ok rfl rfl ?_
      refine s_ci ok rfl ?_
      refine s_stI4 ok rfl rfl ?_
      refine s_ci ok rfl ?_
      refine s_stI5 ok rfl rfl ?_
      have yt := zif_t c5
      have yw := zif_t c14
      have t1 : t < 8 := by have := hd.1.2.2.2.2.2.2.2.2.2.2.2.2.2.1; omega
      exact lp_sure (E := E) (d := d) (k := k) (r := r) (l := l) (n := n) (h := h) rfl rfl rfl hd h2 yt.1 yt.2 (hb t yt.1 t1) w1 (Q := zVx (.int (if (0 ≤ t ∧ t < h 60 6) ∧ (0 ≤ what ∧ what ≤ 1) then (if what = 0 then (sSu (sSuB (h 60) (h 59 17) (h 59 18) t) 10).1 else (sSu (sSuB (h 60) (h 59 17) (h 59 18) t) 10).2) else iI (-1))) (zG k r l n (dE h))) (fun g hE => ⟨congrArg (fun z => some (Value.int z)) (if_pos (show (0 ≤ t ∧ t < h 60 6) ∧ (0 ≤ what ∧ what ≤ 1) from ⟨yt, yw⟩)).symm, g, rfl, hE⟩) 11 0 h none none (dE.rf hd) (by omega) (by omega)
