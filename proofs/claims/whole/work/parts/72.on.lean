/-! the trip: on -/
theorem fC_dK {x a : Int} {H : Nat → Int → Int} (hd : dP H) (x0 : 0 ≤ x) (x1 : x < 12) : ∀ L : List Int, (∀ q ∈ L, 0 ≤ q ∧ q < 8) → dK x H (fC x a H L) L.length
  | [], _ => ⟨dFr.rf, hd, ⟨by show H 65 x - 2 * 0 ≤ H 65 x; omega, by show H 65 x ≤ H 65 x + 2 * 0; omega⟩, ⟨Int.le_refl _, by show H 59 19 ≤ H 59 19 + 0; omega⟩⟩
  | r :: L, hq => by
    have i := fC_dK (a := a) hd x0 x1 L (fun q m => hq q (List.mem_cons_of_mem _ m))
    have b := hq r List.mem_cons_self
    show dK x H (if fC x a H L 69 r < 0 ∧ pFr (H 60) r = a then sTry x r (fC x a H L) else fC x a H L) _
    rw [List.length_cons]
    split
    · exact (dK_try b.1 b.2 x0 x1 i (by omega)).1
    · obtain ⟨i1, i2, i3, i4⟩ := i
      exact ⟨i1, i2, ⟨by omega, by omega⟩, ⟨by omega, by omega⟩⟩
theorem zif_n {c : Prop} [Decidable c] (q : (if c then (0 : Int) else 1) = 0) : c := Classical.byContradiction fun z => by rw [if_neg z] at q; omega
theorem zif_m {c : Prop} [Decidable c] (q : ¬ (if c then (0 : Int) else 1) = 0) : ¬ c := fun z => q (if_pos z)
theorem rl_len {a : Int → Int} : ∀ n : Nat, (rl a n).length = n
  | 0 => rfl
  | n + 1 => by
    show (a n :: rl a n).length = n + 1
    rw [List.length_cons, rl_len n]
theorem lp_letOn4 {E : zE} {d : Nat} {k : Nat → Nat × Nat} {h : Nat → Int → Int} {r : Nat → Int → Option Nat} {l : Nat → Nat → Int64} {n : Nat} {Q : zQ} {p : Int → Int} {w dd x a : Int} {H : Nat → Int → Int} (hd : dP H) (e6 : H 60 = p) (a0 : 0 ≤ a) (a1 : a < 5) (b64 : 0 ≤ H 64 x ∧ H 64 x ≤ 100000) (b65 : -500 ≤ H 65 x ∧ H 65 x ≤ 500) (x0 : 0 ≤ x) (x1 : x < 3 * p 0) (x2 : x % 3 < dd) (hC : tC p w h) (hR : cR 4 5 6 7 8 9 10 11 12 13 k h r n p w) (mi : h 49 (5 * x + a) = H 64 x) (hX : ∀ g u v, znl v = true → (∀ q : Nat, ¬ q = 44 → ¬ q = 45 → ¬ q = 47 → ¬ q = 48 → ¬ q = 52 → ¬ q = 53 → g q = h q) ∧ tP p w g (fC x a H (fL p w (p 6).toNat)) ∧ tB p w dd g (fC x a H (fL p w (p 6).toNat)) → zGo E (d + 6) M_X9_letOn 0 0 Q 124 ([some (.ref 37), some (.ref 4), some (.int (iI (x))), some (.int (iI (a))), some (.int (iI (H 64 x))), some (.int (iI (if H 59 19 < (fC x a H (fL p w (p 6).toNat)) 59 19 then 1 else 0))), u, v], [], zJ (k, g, r, l, n), 0, 0)) : ∀ c : Nat, ∀ (m : Nat) (g : Nat → Int → Int) (v : Option Value), znl v = true → (∀ q : Nat, ¬ q = 44 → ¬ q = 45 → ¬ q = 47 → ¬ q = 48 → ¬ q = 52 → ¬ q = 53 → g q = h q) ∧ tP p w g (fC x a H ((rl (h 43) m).map (sg w))) ∧ tB p w dd g (fC x a H ((rl (h 43) m).map (sg w))) → cnP p w < m + c → m ≤ cnP p w → zGo E (d + 6) M_X9_letOn 0 0 Q 18 ([some (.ref 37), some (.ref 4), some (.int (iI (x))), some (.int (iI (a))), some (.int (iI (H 64 x))), some (.int (iI (if H 59 19 < (fC x a H ((rl (h 43) m).map (sg w))) 59 19 then 1 else 0))), some (.int (iI ((m : Int)))), v], [], zJ (k, g, r, l, n), 0, 0) := by
  have ok := ok_X9_letOn
  intro c
  induction c with
  | zero =>
    intros
    omega
  | succ c ih =>
    intro m g v hv9 ⟨f, tp, tb⟩ g1 g2
    have hp : pOK p := e6 ▸ hd.1
    have p4 := hp.2.1
    have c8 := cnP_in (w := w) hp
    have mem : ∀ q ∈ (rl (h 43) m).map (sg w), 0 ≤ q ∧ q < 8 := fun q hq => by
      obtain ⟨t, ht, rfl⟩ := List.mem_map.mp hq
      obtain ⟨j, j0, j1, rfl⟩ := rl_mem m ht
      obtain ⟨u0, u1⟩ := hC.2.2.2 j j0 (by omega)
      have := sg_lt (p := p) (w := w) u0 u1
      have := hp.2.2.2.2.2.2.2.2.2.2.2.2.2.1
      omega
    have K := fC_dK (a := a) hd x0 (by omega) _ mem
    rw [List.length_map, rl_len] at K
    refine s_ldI6 ok rfl ?_
    refine s_ldA0 ok rfl ?_
    refine s_getJ 6 ok rfl rfl rfl rfl ?_
    rw [show g 37 6 = cnP p w from (congrFun (f 37 (by omega) (by omega) (by omega) (by omega) (by omega) (by omega)) 6).trans hC.1]
    refine s_c_ge ok rfl ⟨by omega, by omega⟩ ⟨by omega, by omega⟩ (fun c24 => ?_) (fun c24 => ?_)
    · have em : m = (cnP p w).toNat := by omega
      rw [em, hC.2.2.1] at tp tb ⊢
      exact hX g _ v hv9 ⟨f, tp, tb⟩
    · refine s_ldA0 ok rfl ?_
      refine s_getF ok rfl rfl rfl rfl ?_
      refine s_ldI6 ok rfl ?_
      refine s_iald ok rfl (by exact rfl) (by exact rfl) (by omega) (by omega) ?_
      obtain ⟨t0, t1⟩ := hC.2.2.2 m (by omega) (by omega)
      rw [show g 43 (m : Int) = h 43 (m : Int) from congrFun (f 43 (by omega) (by omega) (by omega) (by omega) (by omega) (by omega)) _]
      have eF : fC x a H ((rl (h 43) (m + 1)).map (sg w)) = if (fC x a H ((rl (h 43) m).map (sg w))) 69 (sg w (h 43 m)) < 0 ∧ pFr (H 60) (sg w (h 43 m)) = a then sTry x (sg w (h 43 m)) (fC x a H ((rl (h 43) m).map (sg w))) else fC x a H ((rl (h 43) m).map (sg w)) := rfl
      generalize h 43 (m : Int) = t at t0 t1 eF ⊢
      generalize fC x a H ((rl (h 43) m).map (sg w)) = F at tp tb K eF ⊢
      obtain ⟨s0, s1, s2⟩ := sg_lt (p := p) (w := w) t0 t1
      have s8 : sg w t < 8 := by have := hp.2.2.2.2.2.2.2.2.2.2.2.2.2.1; omega
      obtain ⟨k1, k2, k3, k4⟩ := K
      have k60 : F 60 = p := (k1.1 60 (by omega) (by omega)).trans e6
      have k64 : F 64 x = H 64 x := congrFun k1.2.2.2.1 x
      obtain ⟨⟨-, r5⟩, r1, r2, r3, r4, r6⟩ := hR
      obtain ⟨v8, hv, wv8, h2, h3, h4⟩ := r1 t t0 t1
      have wv : wk k g v8 (pK p (sg w t)) (pF p (sg w t)) := wk_fr wv8 (fW_fix fun q hq => f q (by omega) (by omega) (by omega) (by omega) (by omega) (by omega))
      have gq : ∀ q : Nat, ¬ q = 44 → ¬ q = 45 → ¬ q = 47 → ¬ q = 48 → ¬ q = 52 → ¬ q = 53 → ∀ j, g q j = h q j := fun q z1 z2 z3 z4 z5 z6 j => congrFun (f q z1 z2 z3 z4 z5 z6) j
      have gFr : g 6 t = pFr p (sg w t) := (gq 6 (by omega) (by omega) (by omega) (by omega) (by omega) (by omega) t).trans h2
      obtain ⟨y38, y39, y40, y41, y42⟩ := hC.2.1 t t0 t1
      have g38 := (gq 38 (by omega) (by omega) (by omega) (by omega) (by omega) (by omega) t).trans y38
      have g40 := (gq 40 (by omega) (by omega) (by omega) (by omega) (by omega) (by omega) t).trans y40
      have g41 := (gq 41 (by omega) (by omega) (by omega) (by omega) (by omega) (by omega) t).trans y41
      obtain ⟨m5, m6, m7⟩ := r3 (x / 3) (by omega) (by omega)
      have ec := (gq 11 (by omega) (by omega) (by omega) (by omega) (by omega) (by omega) (x / 3)).trans m7
      have es := (gq 10 (by omega) (by omega) (by omega) (by omega) (by omega) (by omega) (x / 3)).trans m6
      have bs := hp.2.2.2.2.2.2.2.2.2.2.2.2.2.2.2.1 (x / 3) (by omega) (by omega)
      obtain ⟨⟨-, -⟩, ⟨-, -⟩, ⟨n0, n1⟩, -, -⟩ := hp.2.2.2.2.2.2.2.2.2.2.2.2.2.2.2.2 (sg w t) s0 s8
      have b38 := pCm_b hp s0 s8
      have b40 := pEx_b hp s0 s8
      have b41 := pPl_b p (sg w t)
      have hp2 := hp.2.2.2.2.1
      have hp3 := hp.2.2.2.2.2.1
      obtain ⟨i1, i2, i3, i4, i5, i6⟩ := tp.2 t t0 t1
      obtain ⟨q53, bo⟩ := tb x x0 x1 x2
      have z69 := k2.2.1 (sg w t)
      have z72 := k2.2.2.2.1 (sg w t) s0 s8
      have z44 : zb (g 44 t) := by
        rw [i1]
        split
        · exact ⟨by omega, by omega⟩
        · exact z69
      refine s_stI7 ok rfl rfl ?_
      refine s_ldA1 ok rfl ?_
      refine s_getF ok rfl rfl rfl rfl ?_
      refine s_ldI7 ok rfl ?_
      refine s_iald ok rfl (by exact rfl) (by exact rfl) (by omega) (by omega) ?_
      refine s_ldI3 ok rfl ?_
      refine s_c_eq ok rfl ⟨by rw [gFr]; omega, by rw [gFr]; omega⟩ ⟨by omega, by omega⟩ (fun c44 => ?_) (fun c44 => ?_)
      · refine s_ldA0 ok rfl ?_
        refine s_ldI7 ok rfl ?_
        refine s_callV ok rfl rfl rfl rfl rfl rfl (ct_arrives9 t0 (by omega) z44) ?_
        refine s_if_eq ok rfl zif10 (fun c53 => ?_) (fun c53 => ?_)
        · refine s_ldA0 ok rfl ?_
          refine s_ldA1 ok rfl ?_
          refine s_ldI2 ok rfl ?_
          refine s_ldI7 ok rfl ?_
          refine s_ldI4 ok rfl ?_
          refine s_callV ok rfl rfl rfl rfl rfl rfl (ct_isLetOn4 (d := d) (p := p) (s := sg w t) x0 (by omega) t0 (by omega) (by omega) (by omega) ec es ⟨bs.2.2.1, bs.2.2.2⟩ hv wv g38 g40 g41 b38 ⟨by omega, by omega⟩ b64 ⟨by omega, by omega⟩) ?_
          refine s_if_eq ok rfl zif01 (fun c66 => ?_) (fun c66 => ?_)
          · first
              | (have nF : ¬ (F 69 (sg w t) < 0 ∧ pFr (H 60) (sg w t) = a) := fun z => c44 (by rw [gFr]; rw [e6] at z; exact z.2)
                 rw [if_neg nF] at eF
                 refine s_inc6 ok rfl rfl ?_
                 refine s_goto ok rfl ?_
                 rw [← eF] at tp tb ⊢
                 exact ih (m + 1) g _ rfl ⟨f, tp, tb⟩ (by omega) (by omega))
              | (have nF : ¬ (F 69 (sg w t) < 0 ∧ pFr (H 60) (sg w t) = a) := fun z => zif_m c53 (by rw [i1, if_pos z.1])
                 rw [if_neg nF] at eF
                 refine s_inc6 ok rfl rfl ?_
                 refine s_goto ok rfl ?_
                 rw [← eF] at tp tb ⊢
                 exact ih (m + 1) g _ rfl ⟨f, tp, tb⟩ (by omega) (by omega))
              | (have hno : F 69 (sg w t) < 0 := by
                   have := zif_n c53
                   rw [i1] at this
                   by_cases z : F 69 (sg w t) < 0
                   · exact z
                   · rw [if_neg z] at this
                     omega
                 rw [if_pos ⟨hno, by rw [e6]; omega⟩] at eF
                 have u := tAsk tp tb k60 t0 t1 c8.2 x0 x1 x2 g41 hno
                 rw [k64, ← eF] at u
                 have nB := zif_f c66
                 rw [if_neg nB] at u
                 have eU : uA p (sg w t) g x t (H 64 x) = uN p (sg w t) g x t (H 64 x) := by unfold uA; rw [if_neg nB]
                 rw [eU] at u
                 have fu : ∀ q : Nat, ¬ q = 47 → ¬ q = 48 → uN p (sg w t) g x t (H 64 x) q = g q := fun q z3 z4 => by
                   unfold uN
                   rw [if_neg nB]
                   split <;> split <;> first | rfl | exact zv_other z3 | exact zv_other z4 | exact (zv_other z4).trans (zv_other z3)
                 have nx := ih (m + 1) (uN p (sg w t) g x t (H 64 x)) (some (.int (iI t))) rfl ⟨fun q z1 z2 z3 z4 z5 z6 => (fu q z3 z4).trans (f q z1 z2 z3 z4 z5 z6), u.1, u.2.1⟩ (by omega) (by omega)
                 rw [u.2.2, show F 59 19 + 0 = F 59 19 by omega] at nx
                 refine s_inc6 ok rfl rfl ?_
                 refine s_goto ok rfl ?_
                 exact nx)
              | (have hno : F 69 (sg w t) < 0 := by
                   have := zif_n c53
                   rw [i1] at this
                   by_cases z : F 69 (sg w t) < 0
                   · exact z
                   · rw [if_neg z] at this
                     omega
                 rw [if_pos ⟨hno, by rw [e6]; omega⟩] at eF
                 have u := tAsk tp tb k60 t0 t1 c8.2 x0 x1 x2 g41 hno
                 rw [k64, ← eF] at u
                 have yB := zif_t c66
                 rw [if_pos yB] at u
                 have eU : uA p (sg w t) g x t (H 64 x) = uT g x t (H 64 x) := by unfold uA; rw [if_pos yB]
                 rw [eU] at u
                 have nx := ih (m + 1) (uT g x t (H 64 x)) (some (.int (iI t))) rfl ⟨fun q z1 z2 z3 z4 z5 z6 => (zv_other z6).trans ((zv_other z5).trans ((zv_other z2).trans ((zv_other z1).trans (f q z1 z2 z3 z4 z5 z6)))), u.1, u.2.1⟩ (by omega) (by omega)
                 have e1 : (if H 59 19 < (fC x a H ((rl (h 43) (m + 1)).map (sg w))) 59 19 then (1 : Int) else 0) = 1 := if_pos (by have := u.2.2; omega)
                 rw [e1] at nx
                 refine s_inc6 ok rfl rfl ?_
                 refine s_goto ok rfl ?_
                 exact nx)
          · have eN : uN p (sg w t) g x t (H 64 x) = g := by unfold uN; rw [if_pos (zif_t c66)]
            rw [eN]
            refine s_ldA0 ok rfl ?_
            refine s_getF ok rfl rfl rfl rfl ?_
            refine s_ldI7 ok rfl ?_
            refine s_ldI2 ok rfl ?_
            refine s_iast ok rfl (by exact rfl) (by exact rfl) (by omega) (by omega) (fun q => by cases q) ?_
            refine s_ldA0 ok rfl ?_
            refine s_getF ok rfl rfl rfl rfl ?_
            refine s_ldI7 ok rfl ?_
            refine s_ldI4 ok rfl ?_
            refine s_iast ok rfl (by exact rfl) (by exact rfl) (by omega) (by omega) (fun q => by cases q) ?_
            refine s_ldA0 ok rfl ?_
            refine s_getF ok rfl rfl rfl rfl ?_
            refine s_ldI2 ok rfl ?_
            refine s_dup2 ok rfl ?_
            refine s_iald ok rfl (by exact rfl) (by exact rfl) (by omega) (by omega) ?_
            refine s_ci ok rfl ?_
            refine s_ldI7 ok rfl ?_
            refine s_bin ok rfl ((zshl t0 (by omega))) ?_
            refine s_bin ok rfl ((zob bo.1 (by have := bo.2.1; show g 52 x < 4096; omega) t0 (by omega)).1) ?_
            refine s_iast ok rfl (by exact rfl) (by exact rfl) (by omega) (by omega) (fun q => by cases q) ?_
            refine s_ldA0 ok rfl ?_
            refine s_getF ok rfl rfl rfl rfl ?_
            refine s_ldI2 ok rfl ?_
            refine s_dup2 ok rfl ?_
            refine s_iald ok rfl (by exact rfl) (by exact rfl) (by omega) (by omega) ?_
            refine s_ldA0 ok rfl ?_
            refine s_getF ok rfl rfl rfl rfl ?_
            refine s_ldI7 ok rfl ?_
            refine s_iald ok rfl (by exact rfl) (by exact rfl) (by omega) (by omega) ?_
            refine s_add ok rfl ?_
            refine s_iast ok rfl (by exact rfl) (by exact rfl) (by omega) (by omega) (fun q => by cases q) ?_
            refine s_ci ok rfl ?_
            refine s_stI5 ok rfl rfl ?_
            first
              | (have nF : ¬ (F 69 (sg w t) < 0 ∧ pFr (H 60) (sg w t) = a) := fun z => c44 (by rw [gFr]; rw [e6] at z; exact z.2)
                 rw [if_neg nF] at eF
                 refine s_inc6 ok rfl rfl ?_
                 refine s_goto ok rfl ?_
                 rw [← eF] at tp tb ⊢
                 exact ih (m + 1) g _ rfl ⟨f, tp, tb⟩ (by omega) (by omega))
              | (have nF : ¬ (F 69 (sg w t) < 0 ∧ pFr (H 60) (sg w t) = a) := fun z => zif_m c53 (by rw [i1, if_pos z.1])
                 rw [if_neg nF] at eF
                 refine s_inc6 ok rfl rfl ?_
                 refine s_goto ok rfl ?_
                 rw [← eF] at tp tb ⊢
                 exact ih (m + 1) g _ rfl ⟨f, tp, tb⟩ (by omega) (by omega))
              | (have hno : F 69 (sg w t) < 0 := by
                   have := zif_n c53
                   rw [i1] at this
                   by_cases z : F 69 (sg w t) < 0
                   · exact z
                   · rw [if_neg z] at this
                     omega
                 rw [if_pos ⟨hno, by rw [e6]; omega⟩] at eF
                 have u := tAsk tp tb k60 t0 t1 c8.2 x0 x1 x2 g41 hno
                 rw [k64, ← eF] at u
                 have nB := zif_f c66
                 rw [if_neg nB] at u
                 have eU : uA p (sg w t) g x t (H 64 x) = uN p (sg w t) g x t (H 64 x) := by unfold uA; rw [if_neg nB]
                 rw [eU] at u
                 have fu : ∀ q : Nat, ¬ q = 47 → ¬ q = 48 → uN p (sg w t) g x t (H 64 x) q = g q := fun q z3 z4 => by
                   unfold uN
                   rw [if_neg nB]
                   split <;> split <;> first | rfl | exact zv_other z3 | exact zv_other z4 | exact (zv_other z4).trans (zv_other z3)
                 have nx := ih (m + 1) (uN p (sg w t) g x t (H 64 x)) (some (.int (iI t))) rfl ⟨fun q z1 z2 z3 z4 z5 z6 => (fu q z3 z4).trans (f q z1 z2 z3 z4 z5 z6), u.1, u.2.1⟩ (by omega) (by omega)
                 rw [u.2.2, show F 59 19 + 0 = F 59 19 by omega] at nx
                 refine s_inc6 ok rfl rfl ?_
                 refine s_goto ok rfl ?_
                 exact nx)
              | (have hno : F 69 (sg w t) < 0 := by
                   have := zif_n c53
                   rw [i1] at this
                   by_cases z : F 69 (sg w t) < 0
                   · exact z
                   · rw [if_neg z] at this
                     omega
                 rw [if_pos ⟨hno, by rw [e6]; omega⟩] at eF
                 have u := tAsk tp tb k60 t0 t1 c8.2 x0 x1 x2 g41 hno
                 rw [k64, ← eF] at u
                 have yB := zif_t c66
                 rw [if_pos yB] at u
                 have eU : uA p (sg w t) g x t (H 64 x) = uT g x t (H 64 x) := by unfold uA; rw [if_pos yB]
                 rw [eU] at u
                 have nx := ih (m + 1) (uT g x t (H 64 x)) (some (.int (iI t))) rfl ⟨fun q z1 z2 z3 z4 z5 z6 => (zv_other z6).trans ((zv_other z5).trans ((zv_other z2).trans ((zv_other z1).trans (f q z1 z2 z3 z4 z5 z6)))), u.1, u.2.1⟩ (by omega) (by omega)
                 have e1 : (if H 59 19 < (fC x a H ((rl (h 43) (m + 1)).map (sg w))) 59 19 then (1 : Int) else 0) = 1 := if_pos (by have := u.2.2; omega)
                 rw [e1] at nx
                 refine s_inc6 ok rfl rfl ?_
                 refine s_goto ok rfl ?_
                 exact nx)
        · first
            | (have nF : ¬ (F 69 (sg w t) < 0 ∧ pFr (H 60) (sg w t) = a) := fun z => c44 (by rw [gFr]; rw [e6] at z; exact z.2)
               rw [if_neg nF] at eF
               refine s_inc6 ok rfl rfl ?_
               refine s_goto ok rfl ?_
               rw [← eF] at tp tb ⊢
               exact ih (m + 1) g _ rfl ⟨f, tp, tb⟩ (by omega) (by omega))
            | (have nF : ¬ (F 69 (sg w t) < 0 ∧ pFr (H 60) (sg w t) = a) := fun z => zif_m c53 (by rw [i1, if_pos z.1])
               rw [if_neg nF] at eF
               refine s_inc6 ok rfl rfl ?_
               refine s_goto ok rfl ?_
               rw [← eF] at tp tb ⊢
               exact ih (m + 1) g _ rfl ⟨f, tp, tb⟩ (by omega) (by omega))
            | (have hno : F 69 (sg w t) < 0 := by
                 have := zif_n c53
                 rw [i1] at this
                 by_cases z : F 69 (sg w t) < 0
                 · exact z
                 · rw [if_neg z] at this
                   omega
               rw [if_pos ⟨hno, by rw [e6]; omega⟩] at eF
               have u := tAsk tp tb k60 t0 t1 c8.2 x0 x1 x2 g41 hno
               rw [k64, ← eF] at u
               have nB := zif_f c66
               rw [if_neg nB] at u
               have eU : uA p (sg w t) g x t (H 64 x) = uN p (sg w t) g x t (H 64 x) := by unfold uA; rw [if_neg nB]
               rw [eU] at u
               have fu : ∀ q : Nat, ¬ q = 47 → ¬ q = 48 → uN p (sg w t) g x t (H 64 x) q = g q := fun q z3 z4 => by
                 unfold uN
                 rw [if_neg nB]
                 split <;> split <;> first | rfl | exact zv_other z3 | exact zv_other z4 | exact (zv_other z4).trans (zv_other z3)
               have nx := ih (m + 1) (uN p (sg w t) g x t (H 64 x)) (some (.int (iI t))) rfl ⟨fun q z1 z2 z3 z4 z5 z6 => (fu q z3 z4).trans (f q z1 z2 z3 z4 z5 z6), u.1, u.2.1⟩ (by omega) (by omega)
               rw [u.2.2, show F 59 19 + 0 = F 59 19 by omega] at nx
               refine s_inc6 ok rfl rfl ?_
               refine s_goto ok rfl ?_
               exact nx)
            | (have hno : F 69 (sg w t) < 0 := by
                 have := zif_n c53
                 rw [i1] at this
                 by_cases z : F 69 (sg w t) < 0
                 · exact z
                 · rw [if_neg z] at this
                   omega
               rw [if_pos ⟨hno, by rw [e6]; omega⟩] at eF
               have u := tAsk tp tb k60 t0 t1 c8.2 x0 x1 x2 g41 hno
               rw [k64, ← eF] at u
               have yB := zif_t c66
               rw [if_pos yB] at u
               have eU : uA p (sg w t) g x t (H 64 x) = uT g x t (H 64 x) := by unfold uA; rw [if_pos yB]
               rw [eU] at u
               have nx := ih (m + 1) (uT g x t (H 64 x)) (some (.int (iI t))) rfl ⟨fun q z1 z2 z3 z4 z5 z6 => (zv_other z6).trans ((zv_other z5).trans ((zv_other z2).trans ((zv_other z1).trans (f q z1 z2 z3 z4 z5 z6)))), u.1, u.2.1⟩ (by omega) (by omega)
               have e1 : (if H 59 19 < (fC x a H ((rl (h 43) (m + 1)).map (sg w))) 59 19 then (1 : Int) else 0) = 1 := if_pos (by have := u.2.2; omega)
               rw [e1] at nx
               refine s_inc6 ok rfl rfl ?_
               refine s_goto ok rfl ?_
               exact nx)
      · first
          | (have nF : ¬ (F 69 (sg w t) < 0 ∧ pFr (H 60) (sg w t) = a) := fun z => c44 (by rw [gFr]; rw [e6] at z; exact z.2)
             rw [if_neg nF] at eF
             refine s_inc6 ok rfl rfl ?_
             refine s_goto ok rfl ?_
             rw [← eF] at tp tb ⊢
             exact ih (m + 1) g _ rfl ⟨f, tp, tb⟩ (by omega) (by omega))
          | (have nF : ¬ (F 69 (sg w t) < 0 ∧ pFr (H 60) (sg w t) = a) := fun z => zif_m c53 (by rw [i1, if_pos z.1])
             rw [if_neg nF] at eF
             refine s_inc6 ok rfl rfl ?_
             refine s_goto ok rfl ?_
             rw [← eF] at tp tb ⊢
             exact ih (m + 1) g _ rfl ⟨f, tp, tb⟩ (by omega) (by omega))
          | (have hno : F 69 (sg w t) < 0 := by
               have := zif_n c53
               rw [i1] at this
               by_cases z : F 69 (sg w t) < 0
               · exact z
               · rw [if_neg z] at this
                 omega
             rw [if_pos ⟨hno, by rw [e6]; omega⟩] at eF
             have u := tAsk tp tb k60 t0 t1 c8.2 x0 x1 x2 g41 hno
             rw [k64, ← eF] at u
             have nB := zif_f c66
             rw [if_neg nB] at u
             have eU : uA p (sg w t) g x t (H 64 x) = uN p (sg w t) g x t (H 64 x) := by unfold uA; rw [if_neg nB]
             rw [eU] at u
             have fu : ∀ q : Nat, ¬ q = 47 → ¬ q = 48 → uN p (sg w t) g x t (H 64 x) q = g q := fun q z3 z4 => by
               unfold uN
               rw [if_neg nB]
               split <;> split <;> first | rfl | exact zv_other z3 | exact zv_other z4 | exact (zv_other z4).trans (zv_other z3)
             have nx := ih (m + 1) (uN p (sg w t) g x t (H 64 x)) (some (.int (iI t))) rfl ⟨fun q z1 z2 z3 z4 z5 z6 => (fu q z3 z4).trans (f q z1 z2 z3 z4 z5 z6), u.1, u.2.1⟩ (by omega) (by omega)
             rw [u.2.2, show F 59 19 + 0 = F 59 19 by omega] at nx
             refine s_inc6 ok rfl rfl ?_
             refine s_goto ok rfl ?_
             exact nx)
          | (have hno : F 69 (sg w t) < 0 := by
               have := zif_n c53
               rw [i1] at this
               by_cases z : F 69 (sg w t) < 0
               · exact z
               · rw [if_neg z] at this
                 omega
             rw [if_pos ⟨hno, by rw [e6]; omega⟩] at eF
             have u := tAsk tp tb k60 t0 t1 c8.2 x0 x1 x2 g41 hno
             rw [k64, ← eF] at u
             have yB := zif_t c66
             rw [if_pos yB] at u
             have eU : uA p (sg w t) g x t (H 64 x) = uT g x t (H 64 x) := by unfold uA; rw [if_pos yB]
             rw [eU] at u
             have nx := ih (m + 1) (uT g x t (H 64 x)) (some (.int (iI t))) rfl ⟨fun q z1 z2 z3 z4 z5 z6 => (zv_other z6).trans ((zv_other z5).trans ((zv_other z2).trans ((zv_other z1).trans (f q z1 z2 z3 z4 z5 z6)))), u.1, u.2.1⟩ (by omega) (by omega)
             have e1 : (if H 59 19 < (fC x a H ((rl (h 43) (m + 1)).map (sg w))) 59 19 then (1 : Int) else 0) = 1 := if_pos (by have := u.2.2; omega)
             rw [e1] at nx
             refine s_inc6 ok rfl rfl ?_
             refine s_goto ok rfl ?_
             exact nx)
theorem ct_letOn4 {E : zE} {d : Nat} {k : Nat → Nat × Nat} {h : Nat → Int → Int} {r : Nat → Int → Option Nat} {l : Nat → Nat → Int64} {n : Nat} {p : Int → Int} {w dd x a : Int} {H : Nat → Int → Int} (hd : dP H) (e6 : H 60 = p) (a0 : 0 ≤ a) (a1 : a < 5) (b64 : 0 ≤ H 64 x ∧ H 64 x ≤ 100000) (b65 : -500 ≤ H 65 x ∧ H 65 x ≤ 500) (x0 : 0 ≤ x) (x1 : x < 3 * p 0) (x2 : x % 3 < dd) (hC : tC p w h) (hR : cR 4 5 6 7 8 9 10 11 12 13 k h r n p w) (mi : h 49 (5 * x + a) = H 64 x) (tp : tP p w h H) (tb : tB p w dd h H) : zCT E (d + 6) M_X9_letOn [.ref 37, .ref 4, .int (iI (x)), .int (iI (a))] (zJ (k, h, r, l, n)) 0 0 (zVx (.int (iI (if H 59 19 < (fC x a H (fL p w (p 6).toNat)) 59 19 then 1 else 0))) (zG k r l n (fun g => (∀ q : Nat, ¬ q = 44 → ¬ q = 45 → ¬ q = 47 → ¬ q = 48 → ¬ q = 52 → ¬ q = 53 → g q = h q) ∧ tP p w g (fC x a H (fL p w (p 6).toNat)) ∧ tB p w dd g (fC x a H (fL p w (p 6).toNat))))) := by
  have ok := ok_X9_letOn
  refine zCT_of pn_X9_letOn (Nat.le_of_ble_eq_true rfl) ?_
  show zGo _ _ _ _ _ _ 0 ([some (.ref 37), some (.ref 4), some (.int (iI (x))), some (.int (iI (a))), none, none, none, none], [], _, _, _)
  have hp : pOK p := e6 ▸ hd.1
  have p4 := hp.2.1
  have c8 := cnP_in (w := w) hp
  refine s_ldA0 ok rfl ?_
  refine s_getF ok rfl rfl rfl rfl ?_
  refine s_ci ok rfl ?_
  refine s_ldI2 ok rfl ?_
  refine s_mul ok rfl ?_
  refine s_ldI3 ok rfl ?_
  refine s_add ok rfl ?_
  refine s_iald ok rfl (by exact rfl) (by exact rfl) (by omega) (by omega) ?_
  rw [mi]
  refine s_stI4 ok rfl rfl ?_
  refine s_ci ok rfl ?_
  refine s_stI5 ok rfl rfl ?_
  refine s_ci ok rfl ?_
  refine s_stI6 ok rfl rfl ?_
  have K : ∀ g u v, znl v = true → (∀ q : Nat, ¬ q = 44 → ¬ q = 45 → ¬ q = 47 → ¬ q = 48 → ¬ q = 52 → ¬ q = 53 → g q = h q) ∧ tP p w g (fC x a H (fL p w (p 6).toNat)) ∧ tB p w dd g (fC x a H (fL p w (p 6).toNat)) → zGo E (d + 6) M_X9_letOn 0 0 (zVx (.int (iI (if H 59 19 < (fC x a H (fL p w (p 6).toNat)) 59 19 then 1 else 0))) (zG k r l n (fun g => (∀ q : Nat, ¬ q = 44 → ¬ q = 45 → ¬ q = 47 → ¬ q = 48 → ¬ q = 52 → ¬ q = 53 → g q = h q) ∧ tP p w g (fC x a H (fL p w (p 6).toNat)) ∧ tB p w dd g (fC x a H (fL p w (p 6).toNat))))) 124 ([some (.ref 37), some (.ref 4), some (.int (iI (x))), some (.int (iI (a))), some (.int (iI (H 64 x))), some (.int (iI (if H 59 19 < (fC x a H (fL p w (p 6).toNat)) 59 19 then 1 else 0))), u, v], [], zJ (k, g, r, l, n), 0, 0) := fun g u v hv hg => by
    refine s_ldI5 ok rfl ?_
    refine s_retZ ok rfl ?_ ⟨rfl, g, rfl, hg⟩
    split
    · exact Or.inr rfl
    · exact Or.inl rfl
  have nx := lp_letOn4 (E := E) (d := d) (k := k) (r := r) (l := l) (n := n) (h := h) hd e6 a0 a1 b64 b65 x0 x1 x2 hC hR mi K (cnP p w + 1).toNat 0 h none rfl ⟨fun _ _ _ _ _ _ _ => rfl, tp, tb⟩ (by omega) (by omega)
  rw [show (if H 59 19 < (fC x a H ((rl (h 43) 0).map (sg w))) 59 19 then (1 : Int) else 0) = 0 from if_neg (Int.lt_irrefl _)] at nx
  exact nx
theorem lp_letOn15 {E : zE} {d : Nat} {k : Nat → Nat × Nat} {h : Nat → Int → Int} {r : Nat → Int → Option Nat} {l : Nat → Nat → Int64} {n : Nat} {Q : zQ} {p : Int → Int} {w dd x a : Int} {H : Nat → Int → Int} (hd : dP H) (e6 : H 60 = p) (a0 : 0 ≤ a) (a1 : a < 5) (b64 : 0 ≤ H 64 x ∧ H 64 x ≤ 100000) (b65 : -500 ≤ H 65 x ∧ H 65 x ≤ 500) (x0 : 0 ≤ x) (x1 : x < 3 * p 0) (x2 : x % 3 < dd) (hC : tC p w h) (hR : cR 15 16 17 18 19 20 21 22 23 24 k h r n p w) (mi : h 49 (5 * x + a) = H 64 x) (hX : ∀ g u v, znl v = true → (∀ q : Nat, ¬ q = 44 → ¬ q = 45 → ¬ q = 47 → ¬ q = 48 → ¬ q = 52 → ¬ q = 53 → g q = h q) ∧ tP p w g (fC x a H (fL p w (p 6).toNat)) ∧ tB p w dd g (fC x a H (fL p w (p 6).toNat)) → zGo E (d + 6) M_X9_letOn 0 0 Q 124 ([some (.ref 37), some (.ref 15), some (.int (iI (x))), some (.int (iI (a))), some (.int (iI (H 64 x))), some (.int (iI (if H 59 19 < (fC x a H (fL p w (p 6).toNat)) 59 19 then 1 else 0))), u, v], [], zJ (k, g, r, l, n), 0, 0)) : ∀ c : Nat, ∀ (m : Nat) (g : Nat → Int → Int) (v : Option Value), znl v = true → (∀ q : Nat, ¬ q = 44 → ¬ q = 45 → ¬ q = 47 → ¬ q = 48 → ¬ q = 52 → ¬ q = 53 → g q = h q) ∧ tP p w g (fC x a H ((rl (h 43) m).map (sg w))) ∧ tB p w dd g (fC x a H ((rl (h 43) m).map (sg w))) → cnP p w < m + c → m ≤ cnP p w → zGo E (d + 6) M_X9_letOn 0 0 Q 18 ([some (.ref 37), some (.ref 15), some (.int (iI (x))), some (.int (iI (a))), some (.int (iI (H 64 x))), some (.int (iI (if H 59 19 < (fC x a H ((rl (h 43) m).map (sg w))) 59 19 then 1 else 0))), some (.int (iI ((m : Int)))), v], [], zJ (k, g, r, l, n), 0, 0) := by
  have ok := ok_X9_letOn
  intro c
  induction c with
  | zero =>
    intros
    omega
  | succ c ih =>
    intro m g v hv9 ⟨f, tp, tb⟩ g1 g2
    have hp : pOK p := e6 ▸ hd.1
    have p4 := hp.2.1
    have c8 := cnP_in (w := w) hp
    have mem : ∀ q ∈ (rl (h 43) m).map (sg w), 0 ≤ q ∧ q < 8 := fun q hq => by
      obtain ⟨t, ht, rfl⟩ := List.mem_map.mp hq
      obtain ⟨j, j0, j1, rfl⟩ := rl_mem m ht
      obtain ⟨u0, u1⟩ := hC.2.2.2 j j0 (by omega)
      have := sg_lt (p := p) (w := w) u0 u1
      have := hp.2.2.2.2.2.2.2.2.2.2.2.2.2.1
      omega
    have K := fC_dK (a := a) hd x0 (by omega) _ mem
    rw [List.length_map, rl_len] at K
    refine s_ldI6 ok rfl ?_
    refine s_ldA0 ok rfl ?_
    refine s_getJ 6 ok rfl rfl rfl rfl ?_
    rw [show g 37 6 = cnP p w from (congrFun (f 37 (by omega) (by omega) (by omega) (by omega) (by omega) (by omega)) 6).trans hC.1]
    refine s_c_ge ok rfl ⟨by omega, by omega⟩ ⟨by omega, by omega⟩ (fun c24 => ?_) (fun c24 => ?_)
    · have em : m = (cnP p w).toNat := by omega
      rw [em, hC.2.2.1] at tp tb ⊢
      exact hX g _ v hv9 ⟨f, tp, tb⟩
    · refine s_ldA0 ok rfl ?_
      refine s_getF ok rfl rfl rfl rfl ?_
      refine s_ldI6 ok rfl ?_
      refine s_iald ok rfl (by exact rfl) (by exact rfl) (by omega) (by omega) ?_
      obtain ⟨t0, t1⟩ := hC.2.2.2 m (by omega) (by omega)
      rw [show g 43 (m : Int) = h 43 (m : Int) from congrFun (f 43 (by omega) (by omega) (by omega) (by omega) (by omega) (by omega)) _]
      have eF : fC x a H ((rl (h 43) (m + 1)).map (sg w)) = if (fC x a H ((rl (h 43) m).map (sg w))) 69 (sg w (h 43 m)) < 0 ∧ pFr (H 60) (sg w (h 43 m)) = a then sTry x (sg w (h 43 m)) (fC x a H ((rl (h 43) m).map (sg w))) else fC x a H ((rl (h 43) m).map (sg w)) := rfl
      generalize h 43 (m : Int) = t at t0 t1 eF ⊢
      generalize fC x a H ((rl (h 43) m).map (sg w)) = F at tp tb K eF ⊢
      obtain ⟨s0, s1, s2⟩ := sg_lt (p := p) (w := w) t0 t1
      have s8 : sg w t < 8 := by have := hp.2.2.2.2.2.2.2.2.2.2.2.2.2.1; omega
      obtain ⟨k1, k2, k3, k4⟩ := K
      have k60 : F 60 = p := (k1.1 60 (by omega) (by omega)).trans e6
      have k64 : F 64 x = H 64 x := congrFun k1.2.2.2.1 x
      obtain ⟨⟨-, r5⟩, r1, r2, r3, r4, r6⟩ := hR
      obtain ⟨v8, hv, wv8, h2, h3, h4⟩ := r1 t t0 t1
      have wv : wk k g v8 (pK p (sg w t)) (pF p (sg w t)) := wk_fr wv8 (fW_fix fun q hq => f q (by omega) (by omega) (by omega) (by omega) (by omega) (by omega))
      have gq : ∀ q : Nat, ¬ q = 44 → ¬ q = 45 → ¬ q = 47 → ¬ q = 48 → ¬ q = 52 → ¬ q = 53 → ∀ j, g q j = h q j := fun q z1 z2 z3 z4 z5 z6 j => congrFun (f q z1 z2 z3 z4 z5 z6) j
      have gFr : g 17 t = pFr p (sg w t) := (gq 17 (by omega) (by omega) (by omega) (by omega) (by omega) (by omega) t).trans h2
      obtain ⟨y38, y39, y40, y41, y42⟩ := hC.2.1 t t0 t1
      have g38 := (gq 38 (by omega) (by omega) (by omega) (by omega) (by omega) (by omega) t).trans y38
      have g40 := (gq 40 (by omega) (by omega) (by omega) (by omega) (by omega) (by omega) t).trans y40
      have g41 := (gq 41 (by omega) (by omega) (by omega) (by omega) (by omega) (by omega) t).trans y41
      obtain ⟨m5, m6, m7⟩ := r3 (x / 3) (by omega) (by omega)
      have ec := (gq 22 (by omega) (by omega) (by omega) (by omega) (by omega) (by omega) (x / 3)).trans m7
      have es := (gq 21 (by omega) (by omega) (by omega) (by omega) (by omega) (by omega) (x / 3)).trans m6
      have bs := hp.2.2.2.2.2.2.2.2.2.2.2.2.2.2.2.1 (x / 3) (by omega) (by omega)
      obtain ⟨⟨-, -⟩, ⟨-, -⟩, ⟨n0, n1⟩, -, -⟩ := hp.2.2.2.2.2.2.2.2.2.2.2.2.2.2.2.2 (sg w t) s0 s8
      have b38 := pCm_b hp s0 s8
      have b40 := pEx_b hp s0 s8
      have b41 := pPl_b p (sg w t)
      have hp2 := hp.2.2.2.2.1
      have hp3 := hp.2.2.2.2.2.1
      obtain ⟨i1, i2, i3, i4, i5, i6⟩ := tp.2 t t0 t1
      obtain ⟨q53, bo⟩ := tb x x0 x1 x2
      have z69 := k2.2.1 (sg w t)
      have z72 := k2.2.2.2.1 (sg w t) s0 s8
      have z44 : zb (g 44 t) := by
        rw [i1]
        split
        · exact ⟨by omega, by omega⟩
        · exact z69
      refine s_stI7 ok rfl rfl ?_
      refine s_ldA1 ok rfl ?_
      refine s_getF ok rfl rfl rfl rfl ?_
      refine s_ldI7 ok rfl ?_
      refine s_iald ok rfl (by exact rfl) (by exact rfl) (by omega) (by omega) ?_
      refine s_ldI3 ok rfl ?_
      refine s_c_eq ok rfl ⟨by rw [gFr]; omega, by rw [gFr]; omega⟩ ⟨by omega, by omega⟩ (fun c44 => ?_) (fun c44 => ?_)
      · refine s_ldA0 ok rfl ?_
        refine s_ldI7 ok rfl ?_
        refine s_callV ok rfl rfl rfl rfl rfl rfl (ct_arrives9 t0 (by omega) z44) ?_
        refine s_if_eq ok rfl zif10 (fun c53 => ?_) (fun c53 => ?_)
        · refine s_ldA0 ok rfl ?_
          refine s_ldA1 ok rfl ?_
          refine s_ldI2 ok rfl ?_
          refine s_ldI7 ok rfl ?_
          refine s_ldI4 ok rfl ?_
          refine s_callV ok rfl rfl rfl rfl rfl rfl (ct_isLetOn15 (d := d) (p := p) (s := sg w t) x0 (by omega) t0 (by omega) (by omega) (by omega) ec es ⟨bs.2.2.1, bs.2.2.2⟩ hv wv g38 g40 g41 b38 ⟨by omega, by omega⟩ b64 ⟨by omega, by omega⟩) ?_
          refine s_if_eq ok rfl zif01 (fun c66 => ?_) (fun c66 => ?_)
          · first
              | (have nF : ¬ (F 69 (sg w t) < 0 ∧ pFr (H 60) (sg w t) = a) := fun z => c44 (by rw [gFr]; rw [e6] at z; exact z.2)
                 rw [if_neg nF] at eF
                 refine s_inc6 ok rfl rfl ?_
                 refine s_goto ok rfl ?_
                 rw [← eF] at tp tb ⊢
                 exact ih (m + 1) g _ rfl ⟨f, tp, tb⟩ (by omega) (by omega))
              | (have nF : ¬ (F 69 (sg w t) < 0 ∧ pFr (H 60) (sg w t) = a) := fun z => zif_m c53 (by rw [i1, if_pos z.1])
                 rw [if_neg nF] at eF
                 refine s_inc6 ok rfl rfl ?_
                 refine s_goto ok rfl ?_
                 rw [← eF] at tp tb ⊢
                 exact ih (m + 1) g _ rfl ⟨f, tp, tb⟩ (by omega) (by omega))
              | (have hno : F 69 (sg w t) < 0 := by
                   have := zif_n c53
                   rw [i1] at this
                   by_cases z : F 69 (sg w t) < 0
                   · exact z
                   · rw [if_neg z] at this
                     omega
                 rw [if_pos ⟨hno, by rw [e6]; omega⟩] at eF
                 have u := tAsk tp tb k60 t0 t1 c8.2 x0 x1 x2 g41 hno
                 rw [k64, ← eF] at u
                 have nB := zif_f c66
                 rw [if_neg nB] at u
                 have eU : uA p (sg w t) g x t (H 64 x) = uN p (sg w t) g x t (H 64 x) := by unfold uA; rw [if_neg nB]
                 rw [eU] at u
                 have fu : ∀ q : Nat, ¬ q = 47 → ¬ q = 48 → uN p (sg w t) g x t (H 64 x) q = g q := fun q z3 z4 => by
                   unfold uN
                   rw [if_neg nB]
                   split <;> split <;> first | rfl | exact zv_other z3 | exact zv_other z4 | exact (zv_other z4).trans (zv_other z3)
                 have nx := ih (m + 1) (uN p (sg w t) g x t (H 64 x)) (some (.int (iI t))) rfl ⟨fun q z1 z2 z3 z4 z5 z6 => (fu q z3 z4).trans (f q z1 z2 z3 z4 z5 z6), u.1, u.2.1⟩ (by omega) (by omega)
                 rw [u.2.2, show F 59 19 + 0 = F 59 19 by omega] at nx
                 refine s_inc6 ok rfl rfl ?_
                 refine s_goto ok rfl ?_
                 exact nx)
              | (have hno : F 69 (sg w t) < 0 := by
                   have := zif_n c53
                   rw [i1] at this
                   by_cases z : F 69 (sg w t) < 0
                   · exact z
                   · rw [if_neg z] at this
                     omega
                 rw [if_pos ⟨hno, by rw [e6]; omega⟩] at eF
                 have u := tAsk tp tb k60 t0 t1 c8.2 x0 x1 x2 g41 hno
                 rw [k64, ← eF] at u
                 have yB := zif_t c66
                 rw [if_pos yB] at u
                 have eU : uA p (sg w t) g x t (H 64 x) = uT g x t (H 64 x) := by unfold uA; rw [if_pos yB]
                 rw [eU] at u
                 have nx := ih (m + 1) (uT g x t (H 64 x)) (some (.int (iI t))) rfl ⟨fun q z1 z2 z3 z4 z5 z6 => (zv_other z6).trans ((zv_other z5).trans ((zv_other z2).trans ((zv_other z1).trans (f q z1 z2 z3 z4 z5 z6)))), u.1, u.2.1⟩ (by omega) (by omega)
                 have e1 : (if H 59 19 < (fC x a H ((rl (h 43) (m + 1)).map (sg w))) 59 19 then (1 : Int) else 0) = 1 := if_pos (by have := u.2.2; omega)
                 rw [e1] at nx
                 refine s_inc6 ok rfl rfl ?_
                 refine s_goto ok rfl ?_
                 exact nx)
          · have eN : uN p (sg w t) g x t (H 64 x) = g := by unfold uN; rw [if_pos (zif_t c66)]
            rw [eN]
            refine s_ldA0 ok rfl ?_
            refine s_getF ok rfl rfl rfl rfl ?_
            refine s_ldI7 ok rfl ?_
            refine s_ldI2 ok rfl ?_
            refine s_iast ok rfl (by exact rfl) (by exact rfl) (by omega) (by omega) (fun q => by cases q) ?_
            refine s_ldA0 ok rfl ?_
            refine s_getF ok rfl rfl rfl rfl ?_
            refine s_ldI7 ok rfl ?_
            refine s_ldI4 ok rfl ?_
            refine s_iast ok rfl (by exact rfl) (by exact rfl) (by omega) (by omega) (fun q => by cases q) ?_
            refine s_ldA0 ok rfl ?_
            refine s_getF ok rfl rfl rfl rfl ?_
            refine s_ldI2 ok rfl ?_
            refine s_dup2 ok rfl ?_
            refine s_iald ok rfl (by exact rfl) (by exact rfl) (by omega) (by omega) ?_
            refine s_ci ok rfl ?_
            refine s_ldI7 ok rfl ?_
            refine s_bin ok rfl ((zshl t0 (by omega))) ?_
            refine s_bin ok rfl ((zob bo.1 (by have := bo.2.1; show g 52 x < 4096; omega) t0 (by omega)).1) ?_
            refine s_iast ok rfl (by exact rfl) (by exact rfl) (by omega) (by omega) (fun q => by cases q) ?_
            refine s_ldA0 ok rfl ?_
            refine s_getF ok rfl rfl rfl rfl ?_
            refine s_ldI2 ok rfl ?_
            refine s_dup2 ok rfl ?_
            refine s_iald ok rfl (by exact rfl) (by exact rfl) (by omega) (by omega) ?_
            refine s_ldA0 ok rfl ?_
            refine s_getF ok rfl rfl rfl rfl ?_
            refine s_ldI7 ok rfl ?_
            refine s_iald ok rfl (by exact rfl) (by exact rfl) (by omega) (by omega) ?_
            refine s_add ok rfl ?_
            refine s_iast ok rfl (by exact rfl) (by exact rfl) (by omega) (by omega) (fun q => by cases q) ?_
            refine s_ci ok rfl ?_
            refine s_stI5 ok rfl rfl ?_
            first
              | (have nF : ¬ (F 69 (sg w t) < 0 ∧ pFr (H 60) (sg w t) = a) := fun z => c44 (by rw [gFr]; rw [e6] at z; exact z.2)
                 rw [if_neg nF] at eF
                 refine s_inc6 ok rfl rfl ?_
                 refine s_goto ok rfl ?_
                 rw [← eF] at tp tb ⊢
                 exact ih (m + 1) g _ rfl ⟨f, tp, tb⟩ (by omega) (by omega))
              | (have nF : ¬ (F 69 (sg w t) < 0 ∧ pFr (H 60) (sg w t) = a) := fun z => zif_m c53 (by rw [i1, if_pos z.1])
                 rw [if_neg nF] at eF
                 refine s_inc6 ok rfl rfl ?_
                 refine s_goto ok rfl ?_
                 rw [← eF] at tp tb ⊢
                 exact ih (m + 1) g _ rfl ⟨f, tp, tb⟩ (by omega) (by omega))
              | (have hno : F 69 (sg w t) < 0 := by
                   have := zif_n c53
                   rw [i1] at this
                   by_cases z : F 69 (sg w t) < 0
                   · exact z
                   · rw [if_neg z] at this
                     omega
                 rw [if_pos ⟨hno, by rw [e6]; omega⟩] at eF
                 have u := tAsk tp tb k60 t0 t1 c8.2 x0 x1 x2 g41 hno
                 rw [k64, ← eF] at u
                 have nB := zif_f c66
                 rw [if_neg nB] at u
                 have eU : uA p (sg w t) g x t (H 64 x) = uN p (sg w t) g x t (H 64 x) := by unfold uA; rw [if_neg nB]
                 rw [eU] at u
                 have fu : ∀ q : Nat, ¬ q = 47 → ¬ q = 48 → uN p (sg w t) g x t (H 64 x) q = g q := fun q z3 z4 => by
                   unfold uN
                   rw [if_neg nB]
                   split <;> split <;> first | rfl | exact zv_other z3 | exact zv_other z4 | exact (zv_other z4).trans (zv_other z3)
                 have nx := ih (m + 1) (uN p (sg w t) g x t (H 64 x)) (some (.int (iI t))) rfl ⟨fun q z1 z2 z3 z4 z5 z6 => (fu q z3 z4).trans (f q z1 z2 z3 z4 z5 z6), u.1, u.2.1⟩ (by omega) (by omega)
                 rw [u.2.2, show F 59 19 + 0 = F 59 19 by omega] at nx
                 refine s_inc6 ok rfl rfl ?_
                 refine s_goto ok rfl ?_
                 exact nx)
              | (have hno : F 69 (sg w t) < 0 := by
                   have := zif_n c53
                   rw [i1] at this
                   by_cases z : F 69 (sg w t) < 0
                   · exact z
                   · rw [if_neg z] at this
                     omega
                 rw [if_pos ⟨hno, by rw [e6]; omega⟩] at eF
                 have u := tAsk tp tb k60 t0 t1 c8.2 x0 x1 x2 g41 hno
                 rw [k64, ← eF] at u
                 have yB := zif_t c66
                 rw [if_pos yB] at u
                 have eU : uA p (sg w t) g x t (H 64 x) = uT g x t (H 64 x) := by unfold uA; rw [if_pos yB]
                 rw [eU] at u
                 have nx := ih (m + 1) (uT g x t (H 64 x)) (some (.int (iI t))) rfl ⟨fun q z1 z2 z3 z4 z5 z6 => (zv_other z6).trans ((zv_other z5).trans ((zv_other z2).trans ((zv_other z1).trans (f q z1 z2 z3 z4 z5 z6)))), u.1, u.2.1⟩ (by omega) (by omega)
                 have e1 : (if H 59 19 < (fC x a H ((rl (h 43) (m + 1)).map (sg w))) 59 19 then (1 : Int) else 0) = 1 := if_pos (by have := u.2.2; omega)
                 rw [e1] at nx
                 refine s_inc6 ok rfl rfl ?_
                 refine s_goto ok rfl ?_
                 exact nx)
        · first
            | (have nF : ¬ (F 69 (sg w t) < 0 ∧ pFr (H 60) (sg w t) = a) := fun z => c44 (by rw [gFr]; rw [e6] at z; exact z.2)
               rw [if_neg nF] at eF
               refine s_inc6 ok rfl rfl ?_
               refine s_goto ok rfl ?_
               rw [← eF] at tp tb ⊢
               exact ih (m + 1) g _ rfl ⟨f, tp, tb⟩ (by omega) (by omega))
            | (have nF : ¬ (F 69 (sg w t) < 0 ∧ pFr (H 60) (sg w t) = a) := fun z => zif_m c53 (by rw [i1, if_pos z.1])
               rw [if_neg nF] at eF
               refine s_inc6 ok rfl rfl ?_
               refine s_goto ok rfl ?_
               rw [← eF] at tp tb ⊢
               exact ih (m + 1) g _ rfl ⟨f, tp, tb⟩ (by omega) (by omega))
            | (have hno : F 69 (sg w t) < 0 := by
                 have := zif_n c53
                 rw [i1] at this
                 by_cases z : F 69 (sg w t) < 0
                 · exact z
                 · rw [if_neg z] at this
                   omega
               rw [if_pos ⟨hno, by rw [e6]; omega⟩] at eF
               have u := tAsk tp tb k60 t0 t1 c8.2 x0 x1 x2 g41 hno
               rw [k64, ← eF] at u
               have nB := zif_f c66
               rw [if_neg nB] at u
               have eU : uA p (sg w t) g x t (H 64 x) = uN p (sg w t) g x t (H 64 x) := by unfold uA; rw [if_neg nB]
               rw [eU] at u
               have fu : ∀ q : Nat, ¬ q = 47 → ¬ q = 48 → uN p (sg w t) g x t (H 64 x) q = g q := fun q z3 z4 => by
                 unfold uN
                 rw [if_neg nB]
                 split <;> split <;> first | rfl | exact zv_other z3 | exact zv_other z4 | exact (zv_other z4).trans (zv_other z3)
               have nx := ih (m + 1) (uN p (sg w t) g x t (H 64 x)) (some (.int (iI t))) rfl ⟨fun q z1 z2 z3 z4 z5 z6 => (fu q z3 z4).trans (f q z1 z2 z3 z4 z5 z6), u.1, u.2.1⟩ (by omega) (by omega)
               rw [u.2.2, show F 59 19 + 0 = F 59 19 by omega] at nx
               refine s_inc6 ok rfl rfl ?_
               refine s_goto ok rfl ?_
               exact nx)
            | (have hno : F 69 (sg w t) < 0 := by
                 have := zif_n c53
                 rw [i1] at this
                 by_cases z : F 69 (sg w t) < 0
                 · exact z
                 · rw [if_neg z] at this
                   omega
               rw [if_pos ⟨hno, by rw [e6]; omega⟩] at eF
               have u := tAsk tp tb k60 t0 t1 c8.2 x0 x1 x2 g41 hno
               rw [k64, ← eF] at u
               have yB := zif_t c66
               rw [if_pos yB] at u
               have eU : uA p (sg w t) g x t (H 64 x) = uT g x t (H 64 x) := by unfold uA; rw [if_pos yB]
               rw [eU] at u
               have nx := ih (m + 1) (uT g x t (H 64 x)) (some (.int (iI t))) rfl ⟨fun q z1 z2 z3 z4 z5 z6 => (zv_other z6).trans ((zv_other z5).trans ((zv_other z2).trans ((zv_other z1).trans (f q z1 z2 z3 z4 z5 z6)))), u.1, u.2.1⟩ (by omega) (by omega)
               have e1 : (if H 59 19 < (fC x a H ((rl (h 43) (m + 1)).map (sg w))) 59 19 then (1 : Int) else 0) = 1 := if_pos (by have := u.2.2; omega)
               rw [e1] at nx
               refine s_inc6 ok rfl rfl ?_
               refine s_goto ok rfl ?_
               exact nx)
      · first
          | (have nF : ¬ (F 69 (sg w t) < 0 ∧ pFr (H 60) (sg w t) = a) := fun z => c44 (by rw [gFr]; rw [e6] at z; exact z.2)
             rw [if_neg nF] at eF
             refine s_inc6 ok rfl rfl ?_
             refine s_goto ok rfl ?_
             rw [← eF] at tp tb ⊢
             exact ih (m + 1) g _ rfl ⟨f, tp, tb⟩ (by omega) (by omega))
          | (have nF : ¬ (F 69 (sg w t) < 0 ∧ pFr (H 60) (sg w t) = a) := fun z => zif_m c53 (by rw [i1, if_pos z.1])
             rw [if_neg nF] at eF
             refine s_inc6 ok rfl rfl ?_
             refine s_goto ok rfl ?_
             rw [← eF] at tp tb ⊢
             exact ih (m + 1) g _ rfl ⟨f, tp, tb⟩ (by omega) (by omega))
          | (have hno : F 69 (sg w t) < 0 := by
               have := zif_n c53
               rw [i1] at this
               by_cases z : F 69 (sg w t) < 0
               · exact z
               · rw [if_neg z] at this
                 omega
             rw [if_pos ⟨hno, by rw [e6]; omega⟩] at eF
             have u := tAsk tp tb k60 t0 t1 c8.2 x0 x1 x2 g41 hno
             rw [k64, ← eF] at u
             have nB := zif_f c66
             rw [if_neg nB] at u
             have eU : uA p (sg w t) g x t (H 64 x) = uN p (sg w t) g x t (H 64 x) := by unfold uA; rw [if_neg nB]
             rw [eU] at u
             have fu : ∀ q : Nat, ¬ q = 47 → ¬ q = 48 → uN p (sg w t) g x t (H 64 x) q = g q := fun q z3 z4 => by
               unfold uN
               rw [if_neg nB]
               split <;> split <;> first | rfl | exact zv_other z3 | exact zv_other z4 | exact (zv_other z4).trans (zv_other z3)
             have nx := ih (m + 1) (uN p (sg w t) g x t (H 64 x)) (some (.int (iI t))) rfl ⟨fun q z1 z2 z3 z4 z5 z6 => (fu q z3 z4).trans (f q z1 z2 z3 z4 z5 z6), u.1, u.2.1⟩ (by omega) (by omega)
             rw [u.2.2, show F 59 19 + 0 = F 59 19 by omega] at nx
             refine s_inc6 ok rfl rfl ?_
             refine s_goto ok rfl ?_
             exact nx)
          | (have hno : F 69 (sg w t) < 0 := by
               have := zif_n c53
               rw [i1] at this
               by_cases z : F 69 (sg w t) < 0
               · exact z
               · rw [if_neg z] at this
                 omega
             rw [if_pos ⟨hno, by rw [e6]; omega⟩] at eF
             have u := tAsk tp tb k60 t0 t1 c8.2 x0 x1 x2 g41 hno
             rw [k64, ← eF] at u
             have yB := zif_t c66
             rw [if_pos yB] at u
             have eU : uA p (sg w t) g x t (H 64 x) = uT g x t (H 64 x) := by unfold uA; rw [if_pos yB]
             rw [eU] at u
             have nx := ih (m + 1) (uT g x t (H 64 x)) (some (.int (iI t))) rfl ⟨fun q z1 z2 z3 z4 z5 z6 => (zv_other z6).trans ((zv_other z5).trans ((zv_other z2).trans ((zv_other z1).trans (f q z1 z2 z3 z4 z5 z6)))), u.1, u.2.1⟩ (by omega) (by omega)
             have e1 : (if H 59 19 < (fC x a H ((rl (h 43) (m + 1)).map (sg w))) 59 19 then (1 : Int) else 0) = 1 := if_pos (by have := u.2.2; omega)
             rw [e1] at nx
             refine s_inc6 ok rfl rfl ?_
             refine s_goto ok rfl ?_
             exact nx)
theorem ct_letOn15 {E : zE} {d : Nat} {k : Nat → Nat × Nat} {h : Nat → Int → Int} {r : Nat → Int → Option Nat} {l : Nat → Nat → Int64} {n : Nat} {p : Int → Int} {w dd x a : Int} {H : Nat → Int → Int} (hd : dP H) (e6 : H 60 = p) (a0 : 0 ≤ a) (a1 : a < 5) (b64 : 0 ≤ H 64 x ∧ H 64 x ≤ 100000) (b65 : -500 ≤ H 65 x ∧ H 65 x ≤ 500) (x0 : 0 ≤ x) (x1 : x < 3 * p 0) (x2 : x % 3 < dd) (hC : tC p w h) (hR : cR 15 16 17 18 19 20 21 22 23 24 k h r n p w) (mi : h 49 (5 * x + a) = H 64 x) (tp : tP p w h H) (tb : tB p w dd h H) : zCT E (d + 6) M_X9_letOn [.ref 37, .ref 15, .int (iI (x)), .int (iI (a))] (zJ (k, h, r, l, n)) 0 0 (zVx (.int (iI (if H 59 19 < (fC x a H (fL p w (p 6).toNat)) 59 19 then 1 else 0))) (zG k r l n (fun g => (∀ q : Nat, ¬ q = 44 → ¬ q = 45 → ¬ q = 47 → ¬ q = 48 → ¬ q = 52 → ¬ q = 53 → g q = h q) ∧ tP p w g (fC x a H (fL p w (p 6).toNat)) ∧ tB p w dd g (fC x a H (fL p w (p 6).toNat))))) := by
  have ok := ok_X9_letOn
  refine zCT_of pn_X9_letOn (Nat.le_of_ble_eq_true rfl) ?_
  show zGo _ _ _ _ _ _ 0 ([some (.ref 37), some (.ref 15), some (.int (iI (x))), some (.int (iI (a))), none, none, none, none], [], _, _, _)
  have hp : pOK p := e6 ▸ hd.1
  have p4 := hp.2.1
  have c8 := cnP_in (w := w) hp
  refine s_ldA0 ok rfl ?_
  refine s_getF ok rfl rfl rfl rfl ?_
  refine s_ci ok rfl ?_
  refine s_ldI2 ok rfl ?_
  refine s_mul ok rfl ?_
  refine s_ldI3 ok rfl ?_
  refine s_add ok rfl ?_
  refine s_iald ok rfl (by exact rfl) (by exact rfl) (by omega) (by omega) ?_
  rw [mi]
  refine s_stI4 ok rfl rfl ?_
  refine s_ci ok rfl ?_
  refine s_stI5 ok rfl rfl ?_
  refine s_ci ok rfl ?_
  refine s_stI6 ok rfl rfl ?_
  have K : ∀ g u v, znl v = true → (∀ q : Nat, ¬ q = 44 → ¬ q = 45 → ¬ q = 47 → ¬ q = 48 → ¬ q = 52 → ¬ q = 53 → g q = h q) ∧ tP p w g (fC x a H (fL p w (p 6).toNat)) ∧ tB p w dd g (fC x a H (fL p w (p 6).toNat)) → zGo E (d + 6) M_X9_letOn 0 0 (zVx (.int (iI (if H 59 19 < (fC x a H (fL p w (p 6).toNat)) 59 19 then 1 else 0))) (zG k r l n (fun g => (∀ q : Nat, ¬ q = 44 → ¬ q = 45 → ¬ q = 47 → ¬ q = 48 → ¬ q = 52 → ¬ q = 53 → g q = h q) ∧ tP p w g (fC x a H (fL p w (p 6).toNat)) ∧ tB p w dd g (fC x a H (fL p w (p 6).toNat))))) 124 ([some (.ref 37), some (.ref 15), some (.int (iI (x))), some (.int (iI (a))), some (.int (iI (H 64 x))), some (.int (iI (if H 59 19 < (fC x a H (fL p w (p 6).toNat)) 59 19 then 1 else 0))), u, v], [], zJ (k, g, r, l, n), 0, 0) := fun g u v hv hg => by
    refine s_ldI5 ok rfl ?_
    refine s_retZ ok rfl ?_ ⟨rfl, g, rfl, hg⟩
    split
    · exact Or.inr rfl
    · exact Or.inl rfl
  have nx := lp_letOn15 (E := E) (d := d) (k := k) (r := r) (l := l) (n := n) (h := h) hd e6 a0 a1 b64 b65 x0 x1 x2 hC hR mi K (cnP p w + 1).toNat 0 h none rfl ⟨fun _ _ _ _ _ _ _ => rfl, tp, tb⟩ (by omega) (by omega)
  rw [show (if H 59 19 < (fC x a H ((rl (h 43) 0).map (sg w))) 59 19 then (1 : Int) else 0) = 0 from if_neg (Int.lt_irrefl _)] at nx
  exact nx
