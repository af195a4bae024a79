/-! the trip: off -/
theorem sGO1_id {x q : Int} {h : Nat → Int → Int} (hn : ¬ (h 69 q = x ∧ h 71 q < 0 ∧ pOf (h 60) q = h 63 x)) : sGO1 x q h = h := by
  unfold sGO1
  rw [if_neg hn]
theorem sGO_cM {x w : Int} {h : Nat → Int → Int} (hw : 0 ≤ w → h 69 w < 0) (x0 : 0 ≤ x) (m : Nat) : sGO x h (cM w (m + 1)) = sGO1 x (sg w m) (sGO x h (cM w m)) := by
  have f1 : ∀ c : Nat, sGO x h (c + 1) = sGO1 x c (sGO x h c) := fun _ => rfl
  unfold cM sg
  by_cases a : 0 ≤ w ∧ w < (m : Int)
  · rw [if_pos a, if_pos (by omega), if_pos (by omega), f1]
    rfl
  · rw [if_neg a]
    by_cases b : w = m
    · rw [if_pos (by omega), if_pos (by omega), f1, f1, sGO1_id (q := (m : Int)) (fun z => ?_)]
      · rfl
      · rw [(sGO_69 m).1, ← b] at z
        have := hw (by omega)
        omega
    · rw [if_neg (by omega), if_neg (by omega), f1]
theorem sGO_end {x w : Int} {p : Int → Int} {h : Nat → Int → Int} (hw : 0 ≤ w → h 69 w < 0) (x0 : 0 ≤ x) (h0 : 0 ≤ p 6) : sGO x h (cM w (cnP p w).toNat) = sGO x h (p 6).toNat := by
  unfold cM cnP
  by_cases a : 0 ≤ w ∧ w < p 6
  · rw [if_pos a]
    by_cases b : w = p 6 - 1
    · rw [if_neg (by omega)]
      have e : (p 6).toNat = (p 6 - 1).toNat + 1 := by omega
      rw [e]
      show _ = sGO1 x ((p 6 - 1).toNat : Int) (sGO x h (p 6 - 1).toNat)
      rw [sGO1_id (fun z => ?_)]
      rw [(sGO_69 _).1, show (((p 6 - 1).toNat : Nat) : Int) = w by omega] at z
      have := hw (by omega)
      omega
    · rw [if_pos (by omega)]
      congr 1
      omega
  · rw [if_neg a, if_neg (by omega)]
theorem sGO_rest {x : Int} {h : Nat → Int → Int} {c np : Nat} (hn : ∀ q : Int, 0 ≤ q → q < np → ¬ (h 69 q = x ∧ sGO x h c 71 q < 0)) : ∀ e : Nat, c + e ≤ np → sGO x h (c + e) = sGO x h c
  | 0, _ => rfl
  | e + 1, he => by
    have i := sGO_rest hn e (by omega)
    show sGO1 x ((c + e : Nat) : Int) (sGO x h (c + e)) = _
    rw [i]
    refine sGO1_id fun z => ?_
    rw [(sGO_69 c).1] at z
    exact hn _ (by omega) (by omega) ⟨z.1, z.2.1⟩
theorem sg_sur {p : Int → Int} {w q : Int} (q0 : 0 ≤ q) (q1 : q < p 6) (qw : ¬ q = w) : ∃ t : Int, 0 ≤ t ∧ t < cnP p w ∧ sg w t = q := by
  by_cases a : 0 ≤ w ∧ w < q
  · refine ⟨q - 1, by omega, ?_, ?_⟩
    · unfold cnP; split <;> omega
    · unfold sg; split <;> omega
  · refine ⟨q, q0, ?_, ?_⟩
    · unfold cnP; split <;> omega
    · unfold sg; split <;> omega
theorem cM_le {p : Int → Int} {w : Int} {m : Nat} (h : m ≤ cnP p w) : cM w m ≤ (p 6).toNat := by
  unfold cnP at h
  unfold cM
  split at h <;> split <;> omega
theorem lp_letOff {E : zE} {d : Nat} {k : Nat → Nat × Nat} {h : Nat → Int → Int} {r : Nat → Int → Option Nat} {l : Nat → Nat → Int64} {n : Nat} {Q : zQ} {p : Int → Int} {w dd x a : Int} {H : Nat → Int → Int} (hd : dP H) (e6 : H 60 = p) (ha : H 63 x = a) (a0 : 0 ≤ a) (a1 : a < 5) (b64 : 0 ≤ H 64 x ∧ H 64 x ≤ 100000) (x0 : 0 ≤ x) (x1 : x < 3 * p 0) (x2 : x % 3 < dd) (s37 : h 37 6 = cnP p w) (hs : ∀ t : Int, 0 ≤ t → t < cnP p w → h 41 t = pPl p (sg w t) ∧ h 42 t = pOf p (sg w t)) (mi : h 49 (5 * x + a) = H 64 x) (z19 : H 59 19 = 0) (hX : ∀ g u, (∀ q : Nat, ¬ q = 46 → ¬ q = 52 → ¬ q = 53 → g q = h q) ∧ tP p w g (sGO x H ((p 6).toNat)) ∧ tB p w dd g (sGO x H ((p 6).toNat)) → zGo E d M_X9_letOff 0 0 Q 105 ([some (.ref 37), some (.int (iI (x))), some (.int (iI (a))), some (.int (iI (if 0 < sGO x H ((p 6).toNat) 59 19 then 1 else 0))), u], [], zJ (k, g, r, l, n), 0, 0)) : ∀ c : Nat, ∀ (m : Nat) (g : Nat → Int → Int), (∀ q : Nat, ¬ q = 46 → ¬ q = 52 → ¬ q = 53 → g q = h q) ∧ tP p w g (sGO x H (cM w m)) ∧ tB p w dd g (sGO x H (cM w m)) → cnP p w < m + c → m ≤ cnP p w → zGo E d M_X9_letOff 0 0 Q 5 ([some (.ref 37), some (.int (iI (x))), some (.int (iI (a))), some (.int (iI (if 0 < sGO x H (cM w m) 59 19 then 1 else 0))), some (.int (iI ((m : Int))))], [], zJ (k, g, r, l, n), 0, 0) := by
  have ok := ok_X9_letOff
  intro c
  induction c with
  | zero =>
    intros
    omega
  | succ c ih =>
    intro m g ⟨f, tp, tb⟩ g1 g2
    have hp : pOK p := e6 ▸ hd.1
    have p4 := hp.2.1
    have c8 := cnP_in (w := w) hp
    have hw : 0 ≤ w → H 69 w < 0 := fun w0 => by have := tp.1 w0; rw [(sGO_69 _).1] at this; exact this
    obtain ⟨q53, b0, b1, b2⟩ := tb x x0 x1 x2
    have k1 := (dK_go (x := x) (h := H) hd ⟨by omega, by omega⟩ (cM w m)).1.2.2.2
    have p60 := hp.2.2.2.2.2.2.2.2.2.2.2.2.1
    refine s_ldI4 ok rfl ?_
    refine s_ldA0 ok rfl ?_
    refine s_getJ 6 ok rfl rfl rfl rfl ?_
    rw [show g 37 6 = cnP p w from (congrFun (f 37 (by omega) (by omega) (by omega)) 6).trans s37]
    refine s_c_ge ok rfl ⟨by omega, by omega⟩ ⟨by omega, by omega⟩ (fun c11 => ?_) (fun c11 => ?_)
    · first
        | (have e0 := mBt_0 ⟨b0, b1, b2⟩ c20
           have er : sGO x H (p 6).toNat = sGO x H (cM w m) := by
             have le := cM_le (p := p) (w := w) (m := m) (by omega)
             have := sGO_rest (x := x) (h := H) (c := cM w m) (np := (p 6).toNat) (fun q q0 q1 z => ?_) ((p 6).toNat - cM w m) (by omega)
             · rw [show cM w m + ((p 6).toNat - cM w m) = (p 6).toNat by omega] at this
               exact this
             · by_cases qw : q = w
               · rw [qw] at z
                 have := hw (by omega)
                 omega
               · obtain ⟨t, t0, t1, rfl⟩ := sg_sur (p := p) (w := w) q0 (by omega) qw
                 have := e0 t t0 (by omega)
                 have z9 := of_decide_eq_false this
                 rw [(sGO_69 (cM w m)).1] at z9
                 exact z9 ⟨t1, z.1, z.2⟩
           rw [← er] at tp tb ⊢
           exact hX g _ ⟨f, tp, tb⟩)
        | (have er : sGO x H (cM w m) = sGO x H (p 6).toNat := by
             rw [← sGO_end (p := p) hw x0 p60]
             congr 2
             omega
           rw [er] at tp tb ⊢
           exact hX g _ ⟨f, tp, tb⟩)
    · refine s_ldA0 ok rfl ?_
      refine s_getF ok rfl rfl rfl rfl ?_
      refine s_ldI1 ok rfl ?_
      refine s_iald ok rfl (by exact rfl) (by exact rfl) (by omega) (by omega) ?_
      refine s_if_eq ok rfl ⟨by omega, by omega⟩ (fun c20 => ?_) (fun c20 => ?_)
      · first
          | (have e0 := mBt_0 ⟨b0, b1, b2⟩ c20
             have er : sGO x H (p 6).toNat = sGO x H (cM w m) := by
               have le := cM_le (p := p) (w := w) (m := m) (by omega)
               have := sGO_rest (x := x) (h := H) (c := cM w m) (np := (p 6).toNat) (fun q q0 q1 z => ?_) ((p 6).toNat - cM w m) (by omega)
               · rw [show cM w m + ((p 6).toNat - cM w m) = (p 6).toNat by omega] at this
                 exact this
               · by_cases qw : q = w
                 · rw [qw] at z
                   have := hw (by omega)
                   omega
                 · obtain ⟨t, t0, t1, rfl⟩ := sg_sur (p := p) (w := w) q0 (by omega) qw
                   have := e0 t t0 (by omega)
                   have z9 := of_decide_eq_false this
                   rw [(sGO_69 (cM w m)).1] at z9
                   exact z9 ⟨t1, z.1, z.2⟩
             rw [← er] at tp tb ⊢
             exact hX g _ ⟨f, tp, tb⟩)
          | (have er : sGO x H (cM w m) = sGO x H (p 6).toNat := by
               rw [← sGO_end (p := p) hw x0 p60]
               congr 2
               omega
             rw [er] at tp tb ⊢
             exact hX g _ ⟨f, tp, tb⟩)
      · have s8 : sg w m < 8 := by have := sg_lt (p := p) (w := w) (t := (m : Int)) (by omega) (by omega); have := hp.2.2.2.2.2.2.2.2.2.2.2.2.2.1; omega
        have s0 : 0 ≤ sg w m := sg_in (by omega)
        obtain ⟨h41, h42⟩ := hs m (by omega) (by omega)
        have g41 : g 41 (m : Int) = pPl p (sg w m) := (congrFun (f 41 (by omega) (by omega) (by omega)) _).trans h41
        have g42 : g 42 (m : Int) = pOf p (sg w m) := (congrFun (f 42 (by omega) (by omega) (by omega)) _).trans h42
        have g49 : g 49 (5 * x + a) = H 64 x := (congrFun (f 49 (by omega) (by omega) (by omega)) _).trans mi
        have o5 := pOf_b hp s0 s8
        have q01 := zbt_01 (g 52 x) m
        have bm := b2 m (by omega) (by omega)
        refine s_ldA0 ok rfl ?_
        refine s_getF ok rfl rfl rfl rfl ?_
        refine s_ldI1 ok rfl ?_
        refine s_iald ok rfl (by exact rfl) (by exact rfl) (by omega) (by omega) ?_
        refine s_ldI4 ok rfl ?_
        refine s_bin ok rfl ((zshr b0 (by omega) (by omega) (by omega)).1) ?_
        refine s_ci ok rfl ?_
        refine s_bin ok rfl ((zshr b0 (by omega) (by omega) (by omega)).2) ?_
        refine s_ci ok rfl ?_
        refine s_c_eq ok rfl ⟨by omega, by omega⟩ ⟨by omega, by omega⟩ (fun c35 => ?_) (fun c35 => ?_)
        · refine s_ldA0 ok rfl ?_
          refine s_getF ok rfl rfl rfl rfl ?_
          refine s_ldI4 ok rfl ?_
          refine s_iald ok rfl (by exact rfl) (by exact rfl) (by omega) (by omega) ?_
          refine s_ldI2 ok rfl ?_
          refine s_c_eq ok rfl ⟨by omega, by omega⟩ ⟨by omega, by omega⟩ (fun c46 => ?_) (fun c46 => ?_)
          · refine s_ldA0 ok rfl ?_
            refine s_getF ok rfl rfl rfl rfl ?_
            refine s_ldI1 ok rfl ?_
            refine s_dup2 ok rfl ?_
            refine s_iald ok rfl (by exact rfl) (by exact rfl) (by omega) (by omega) ?_
            refine s_ci ok rfl ?_
            refine s_ldI4 ok rfl ?_
            refine s_bin ok rfl ((zshl (by omega) (by omega))) ?_
            refine s_ci ok rfl ?_
            refine s_bin ok rfl (rfl) ?_
            refine s_bin ok rfl ((zbs_1 b0 b1 (by omega) (by omega)).1.2.2.2.2) ?_
            refine s_iast ok rfl (by exact rfl) (by exact rfl) (by omega) (by omega) (fun q => by cases q) ?_
            refine s_ldA0 ok rfl ?_
            refine s_getF ok rfl rfl rfl rfl ?_
            refine s_ldI1 ok rfl ?_
            refine s_dup2 ok rfl ?_
            refine s_iald ok rfl (by exact rfl) (by exact rfl) (by omega) (by omega) ?_
            refine s_ldA0 ok rfl ?_
            refine s_getF ok rfl rfl rfl rfl ?_
            refine s_ldI4 ok rfl ?_
            refine s_iald ok rfl (by exact rfl) (by exact rfl) (by omega) (by omega) ?_
            refine s_sub ok rfl ?_
            refine s_iast ok rfl (by exact rfl) (by exact rfl) (by omega) (by omega) (fun q => by cases q) ?_
            refine s_ldA0 ok rfl ?_
            refine s_getF ok rfl rfl rfl rfl ?_
            refine s_ldI4 ok rfl ?_
            refine s_ldA0 ok rfl ?_
            refine s_getF ok rfl rfl rfl rfl ?_
            refine s_ci ok rfl ?_
            refine s_ldI1 ok rfl ?_
            refine s_mul ok rfl ?_
            refine s_ldI2 ok rfl ?_
            refine s_add ok rfl ?_
            refine s_iald ok rfl (by exact rfl) (by exact rfl) (by omega) (by omega) ?_
            refine s_iast ok rfl (by exact rfl) (by exact rfl) (by omega) (by omega) (fun q => by cases q) ?_
            refine s_ci ok rfl ?_
            refine s_stI3 ok rfl rfl ?_
            first
              | (have hc : sGO x H (cM w m) 69 (sg w m) = x ∧ sGO x H (cM w m) 71 (sg w m) < 0 := by
                   by_cases z : oB p w (sGO x H (cM w m)) x m = true
                   · exact (of_decide_eq_true z).2
                   · rw [if_neg z] at bm
                     omega
                 have e63 : sGO x H (cM w m) 63 x = a := (congrFun ((sGO_69 (cM w m)).2 63 (by omega)) x).trans ha
                 have e64 : sGO x H (cM w m) 64 x = H 64 x := congrFun ((sGO_69 (cM w m)).2 64 (by omega)) x
                 have e60 : sGO x H (cM w m) 60 = p := ((sGO_69 (cM w m)).2 60 (by omega)).trans e6
                 have u := tOff tp tb e60 (by omega) (by omega) c8.2 x0 x1 x2 g41 (g49.trans e64.symm) (by omega) e63 ⟨hc.1, hc.2, g42.symm.trans c46⟩
                 rw [← sGO_cM hw x0 m] at u
                 have n1 : sGO x H (cM w (m + 1)) 59 19 = sGO x H (cM w m) 59 19 + 1 := by
                   rw [sGO_cM hw x0 m]
                   unfold sGO1
                   rw [e60, e63, if_pos ⟨hc.1, hc.2, g42.symm.trans c46⟩]
                   rfl
                 have e1 : (if 0 < sGO x H (cM w (m + 1)) 59 19 then (1 : Int) else 0) = 1 := if_pos (by omega)
                 have nx := ih (m + 1) (uO g x m a) ⟨fun q h1 h2 h3 => (zv_other h1).trans ((zv_other h3).trans ((zv_other h2).trans (f q h1 h2 h3))), u.1, u.2⟩ (by omega) (by omega)
                 rw [e1] at nx
                 refine s_inc4 ok rfl rfl ?_
                 refine s_goto ok rfl ?_
                 exact nx)
              | (have en : sGO x H (cM w (m + 1)) = sGO x H (cM w m) := by
                   rw [sGO_cM hw x0 m]
                   refine sGO1_id fun z => c46 ?_
                   rw [(sGO_69 (cM w m)).2 60 (by omega), e6, (sGO_69 (cM w m)).2 63 (by omega), ha] at z
                   rw [g42]
                   exact z.2.2
                 refine s_inc4 ok rfl rfl ?_
                 refine s_goto ok rfl ?_
                 rw [← en]
                 rw [← en] at tp tb
                 exact ih (m + 1) g ⟨f, tp, tb⟩ (by omega) (by omega))
              | (have en : sGO x H (cM w (m + 1)) = sGO x H (cM w m) := by
                   rw [sGO_cM hw x0 m]
                   refine sGO1_id fun z => c35 ?_
                   have zo : oB p w (sGO x H (cM w m)) x m = true := decide_eq_true ⟨by omega, z.1, z.2.1⟩
                   rw [bm, if_pos zo]
                 refine s_inc4 ok rfl rfl ?_
                 refine s_goto ok rfl ?_
                 rw [← en]
                 rw [← en] at tp tb
                 exact ih (m + 1) g ⟨f, tp, tb⟩ (by omega) (by omega))
          · first
              | (have hc : sGO x H (cM w m) 69 (sg w m) = x ∧ sGO x H (cM w m) 71 (sg w m) < 0 := by
                   by_cases z : oB p w (sGO x H (cM w m)) x m = true
                   · exact (of_decide_eq_true z).2
                   · rw [if_neg z] at bm
                     omega
                 have e63 : sGO x H (cM w m) 63 x = a := (congrFun ((sGO_69 (cM w m)).2 63 (by omega)) x).trans ha
                 have e64 : sGO x H (cM w m) 64 x = H 64 x := congrFun ((sGO_69 (cM w m)).2 64 (by omega)) x
                 have e60 : sGO x H (cM w m) 60 = p := ((sGO_69 (cM w m)).2 60 (by omega)).trans e6
                 have u := tOff tp tb e60 (by omega) (by omega) c8.2 x0 x1 x2 g41 (g49.trans e64.symm) (by omega) e63 ⟨hc.1, hc.2, g42.symm.trans c46⟩
                 rw [← sGO_cM hw x0 m] at u
                 have n1 : sGO x H (cM w (m + 1)) 59 19 = sGO x H (cM w m) 59 19 + 1 := by
                   rw [sGO_cM hw x0 m]
                   unfold sGO1
                   rw [e60, e63, if_pos ⟨hc.1, hc.2, g42.symm.trans c46⟩]
                   rfl
                 have e1 : (if 0 < sGO x H (cM w (m + 1)) 59 19 then (1 : Int) else 0) = 1 := if_pos (by omega)
                 have nx := ih (m + 1) (uO g x m a) ⟨fun q h1 h2 h3 => (zv_other h1).trans ((zv_other h3).trans ((zv_other h2).trans (f q h1 h2 h3))), u.1, u.2⟩ (by omega) (by omega)
                 rw [e1] at nx
                 refine s_inc4 ok rfl rfl ?_
                 refine s_goto ok rfl ?_
                 exact nx)
              | (have en : sGO x H (cM w (m + 1)) = sGO x H (cM w m) := by
                   rw [sGO_cM hw x0 m]
                   refine sGO1_id fun z => c46 ?_
                   rw [(sGO_69 (cM w m)).2 60 (by omega), e6, (sGO_69 (cM w m)).2 63 (by omega), ha] at z
                   rw [g42]
                   exact z.2.2
                 refine s_inc4 ok rfl rfl ?_
                 refine s_goto ok rfl ?_
                 rw [← en]
                 rw [← en] at tp tb
                 exact ih (m + 1) g ⟨f, tp, tb⟩ (by omega) (by omega))
              | (have en : sGO x H (cM w (m + 1)) = sGO x H (cM w m) := by
                   rw [sGO_cM hw x0 m]
                   refine sGO1_id fun z => c35 ?_
                   have zo : oB p w (sGO x H (cM w m)) x m = true := decide_eq_true ⟨by omega, z.1, z.2.1⟩
                   rw [bm, if_pos zo]
                 refine s_inc4 ok rfl rfl ?_
                 refine s_goto ok rfl ?_
                 rw [← en]
                 rw [← en] at tp tb
                 exact ih (m + 1) g ⟨f, tp, tb⟩ (by omega) (by omega))
        · first
            | (have hc : sGO x H (cM w m) 69 (sg w m) = x ∧ sGO x H (cM w m) 71 (sg w m) < 0 := by
                 by_cases z : oB p w (sGO x H (cM w m)) x m = true
                 · exact (of_decide_eq_true z).2
                 · rw [if_neg z] at bm
                   omega
               have e63 : sGO x H (cM w m) 63 x = a := (congrFun ((sGO_69 (cM w m)).2 63 (by omega)) x).trans ha
               have e64 : sGO x H (cM w m) 64 x = H 64 x := congrFun ((sGO_69 (cM w m)).2 64 (by omega)) x
               have e60 : sGO x H (cM w m) 60 = p := ((sGO_69 (cM w m)).2 60 (by omega)).trans e6
               have u := tOff tp tb e60 (by omega) (by omega) c8.2 x0 x1 x2 g41 (g49.trans e64.symm) (by omega) e63 ⟨hc.1, hc.2, g42.symm.trans c46⟩
               rw [← sGO_cM hw x0 m] at u
               have n1 : sGO x H (cM w (m + 1)) 59 19 = sGO x H (cM w m) 59 19 + 1 := by
                 rw [sGO_cM hw x0 m]
                 unfold sGO1
                 rw [e60, e63, if_pos ⟨hc.1, hc.2, g42.symm.trans c46⟩]
                 rfl
               have e1 : (if 0 < sGO x H (cM w (m + 1)) 59 19 then (1 : Int) else 0) = 1 := if_pos (by omega)
               have nx := ih (m + 1) (uO g x m a) ⟨fun q h1 h2 h3 => (zv_other h1).trans ((zv_other h3).trans ((zv_other h2).trans (f q h1 h2 h3))), u.1, u.2⟩ (by omega) (by omega)
               rw [e1] at nx
               refine s_inc4 ok rfl rfl ?_
               refine s_goto ok rfl ?_
               exact nx)
            | (have en : sGO x H (cM w (m + 1)) = sGO x H (cM w m) := by
                 rw [sGO_cM hw x0 m]
                 refine sGO1_id fun z => c46 ?_
                 rw [(sGO_69 (cM w m)).2 60 (by omega), e6, (sGO_69 (cM w m)).2 63 (by omega), ha] at z
                 rw [g42]
                 exact z.2.2
               refine s_inc4 ok rfl rfl ?_
               refine s_goto ok rfl ?_
               rw [← en]
               rw [← en] at tp tb
               exact ih (m + 1) g ⟨f, tp, tb⟩ (by omega) (by omega))
            | (have en : sGO x H (cM w (m + 1)) = sGO x H (cM w m) := by
                 rw [sGO_cM hw x0 m]
                 refine sGO1_id fun z => c35 ?_
                 have zo : oB p w (sGO x H (cM w m)) x m = true := decide_eq_true ⟨by omega, z.1, z.2.1⟩
                 rw [bm, if_pos zo]
               refine s_inc4 ok rfl rfl ?_
               refine s_goto ok rfl ?_
               rw [← en]
               rw [← en] at tp tb
               exact ih (m + 1) g ⟨f, tp, tb⟩ (by omega) (by omega))
theorem ct_letOff {E : zE} {d : Nat} {k : Nat → Nat × Nat} {h : Nat → Int → Int} {r : Nat → Int → Option Nat} {l : Nat → Nat → Int64} {n : Nat} {p : Int → Int} {w dd x a : Int} {H : Nat → Int → Int} (hd : dP H) (e6 : H 60 = p) (ha : H 63 x = a) (a0 : 0 ≤ a) (a1 : a < 5) (b64 : 0 ≤ H 64 x ∧ H 64 x ≤ 100000) (x0 : 0 ≤ x) (x1 : x < 3 * p 0) (x2 : x % 3 < dd) (s37 : h 37 6 = cnP p w) (hs : ∀ t : Int, 0 ≤ t → t < cnP p w → h 41 t = pPl p (sg w t) ∧ h 42 t = pOf p (sg w t)) (mi : h 49 (5 * x + a) = H 64 x) (z19 : H 59 19 = 0) (tp : tP p w h H) (tb : tB p w dd h H) : zCT E d M_X9_letOff [.ref 37, .int (iI (x)), .int (iI (a))] (zJ (k, h, r, l, n)) 0 0 (zVx (.int (iI (if 0 < sGO x H ((p 6).toNat) 59 19 then 1 else 0))) (zG k r l n (fun g => (∀ q : Nat, ¬ q = 46 → ¬ q = 52 → ¬ q = 53 → g q = h q) ∧ tP p w g (sGO x H ((p 6).toNat)) ∧ tB p w dd g (sGO x H ((p 6).toNat))))) := by
  have ok := ok_X9_letOff
  refine zCT_of pn_X9_letOff (Nat.le_of_ble_eq_true rfl) ?_
  show zGo _ _ _ _ _ _ 0 ([some (.ref 37), some (.int (iI (x))), some (.int (iI (a))), none, none], [], _, _, _)
  refine s_ci ok rfl ?_
  refine s_stI3 ok rfl rfl ?_
  refine s_ci ok rfl ?_
  refine s_stI4 ok rfl rfl ?_
  have hp : pOK p := e6 ▸ hd.1
  have c8 := cnP_in (w := w) hp
  have p60 := hp.2.2.2.2.2.2.2.2.2.2.2.2.1
  have e0 : cM w 0 = 0 := by unfold cM; rw [if_neg (by omega)]
  have q0 : sGO x H (cM w 0) = H := by rw [e0]; rfl
  have K : ∀ g u, (∀ q : Nat, ¬ q = 46 → ¬ q = 52 → ¬ q = 53 → g q = h q) ∧ tP p w g (sGO x H ((p 6).toNat)) ∧ tB p w dd g (sGO x H ((p 6).toNat)) → zGo E d M_X9_letOff 0 0 (zVx (.int (iI (if 0 < sGO x H ((p 6).toNat) 59 19 then 1 else 0))) (zG k r l n (fun g => (∀ q : Nat, ¬ q = 46 → ¬ q = 52 → ¬ q = 53 → g q = h q) ∧ tP p w g (sGO x H ((p 6).toNat)) ∧ tB p w dd g (sGO x H ((p 6).toNat))))) 105 ([some (.ref 37), some (.int (iI (x))), some (.int (iI (a))), some (.int (iI (if 0 < sGO x H ((p 6).toNat) 59 19 then 1 else 0))), u], [], zJ (k, g, r, l, n), 0, 0) := fun g u hg => by
    refine s_ldI3 ok rfl ?_
    refine s_retZ ok rfl ?_ ⟨rfl, g, rfl, hg⟩
    split
    · exact Or.inr rfl
    · exact Or.inl rfl
  have nx := lp_letOff (E := E) (d := d) (k := k) (r := r) (l := l) (n := n) (h := h) hd e6 ha a0 a1 b64 x0 x1 x2 s37 hs mi z19 (fun g u hg => K g u hg) (cnP p w + 1).toNat 0 h (by rw [q0]; exact ⟨fun _ _ _ _ => rfl, tp, tb⟩) (by omega) (by omega)
  rw [q0, z19] at nx
  exact nx
