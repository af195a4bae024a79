/-! day -/
/-- what a day leaves as it was -/
def dYd (h g : Nat → Int → Int) : Prop := (∀ n, ¬ n = 59 → ¬ n = 60 → ¬ n = 62 → ¬ n = 76 → g n = h n) ∧ ∀ j, ¬ (j = 20 ∨ j = 21 ∨ j = 22) → g 59 j = h 59 j
theorem dYd.y {h g f : Nat → Int → Int} (a : dYd h g) (b : tY g f) : dYd h f := ⟨fun n h1 h2 h3 h4 => (b.1 n h1 h4).trans (a.1 n h1 h2 h3 h4), fun j hj => (b.2 j (by omega)).trans (a.2 j hj)⟩
theorem dYd.p {h g f : Nat → Int → Int} (a : dYd h g) (b : ∀ m, ¬ m = 60 → f m = g m) : dYd h f := ⟨fun n h1 h2 h3 h4 => (b n h2).trans (a.1 n h1 h2 h3 h4), fun j hj => (congrFun (b 59 (by omega)) j).trans (a.2 j hj)⟩
theorem tX.p {g f : Nat → Int → Int} {a0 sz : Int} {E : Int → Int} (x : tX g a0 sz E) (b : ∀ m, ¬ m = 60 → f m = g m) : tX f a0 sz E := by
  obtain ⟨⟨x1, x2⟩, x3, x4, x5, x6⟩ := x
  exact ⟨⟨by rw [b 59 (by omega)]; exact x1, by rw [b 59 (by omega)]; exact x2⟩, x3, x4, fun j j0 j1 => by rw [b 85 (by omega)]; exact x5 j j0 j1, x6⟩
theorem tl_end {X : Int → Int} {sz a : Int} {p : Int → Int} (h : ¬ a < sz) : ∀ {c : Nat}, tl X sz c a p = (0, p)
  | 0 => rfl
  | c + 1 => by
    unfold tl
    exact if_neg h
theorem lp_day1 {E : zE} {d : Nat} {k : Nat → Nat × Nat} {h : Nat → Int → Int} {r : Nat → Int → Option Nat} {l : Nat → Nat → Int64} {n : Nat} {Q : zQ} {a9 sz t T NT : Int} {X : Int → Int} {u2 : Int32} (hX : tX h a9 sz X) (sz0 : 0 ≤ sz ∧ sz ≤ 100) (hQ : ∀ g N, tY h g → (T = -1 → N = NT) → zGo E (d + 4) M_X12_day 0 0 Q 77 ([some (.ref 59), some (.int (iI (t))), some (.int u2), some (.int (iI (N))), some (.int (iI (if T = -1 then 0 else -1000 - T))), none, none, none], [], zJ (k, g, r, l, n), 0, 0)) : ∀ c : Nat, ∀ (g : Nat → Int → Int) (a m : Int), tY h g → g 59 20 = a → 0 ≤ a → (a < sz ∨ a = 0) → sz < a + (c : Int) → fB (tc X sz) sz c a = T → (T = -1 → m + cN (tc X sz) sz c a = NT) → zGo E (d + 4) M_X12_day 0 0 Q 41 ([some (.ref 59), some (.int (iI (t))), some (.int u2), some (.int (iI (m))), some (.int (iI (0))), none, none, none], [], zJ (k, g, r, l, n), 0, 0) := by
  have ok := ok_X12_day
  intro c
  induction c with
  | zero =>
    intros
    omega
  | succ c ih =>
    intro g a m y ga a0 a1 a2 hT hN
    have xg := hX.y y
    have eT : fB (tc X sz) sz (c + 1) a = if fB1 (tc X sz) a = -1 then (if a + dgs ((tc X sz) a) + 2 < sz then fB (tc X sz) sz c (a + dgs ((tc X sz) a) + 2) else -1) else fB1 (tc X sz) a := rfl
    have eN : cN (tc X sz) sz (c + 1) a = 1 + (if a + dgs ((tc X sz) a) + 2 < sz then cN (tc X sz) sz c (a + dgs ((tc X sz) a) + 2) else 0) := rfl
    have f9 := fB1_in (X := (tc X sz)) (a := a) a0
    refine s_ldA0 ok rfl ?_
    refine s_callVx ok rfl rfl rfl rfl rfl rfl (ct_readsStatement (h := g) xg ga a0 (by omega)) (fun σ42 hσ42 => ?_)
    obtain ⟨g42, rfl, hg42⟩ := hσ42
    obtain ⟨y42, p42, -⟩ := hg42
    refine s_if_eq ok rfl zif01 (fun c45 => ?_) (fun c45 => ?_)
    · have c9 := zif_f c45
      refine s_ci ok rfl ?_
      refine s_ldA0 ok rfl ?_
      refine s_getJ 20 ok rfl rfl rfl rfl ?_
      rw [p42, if_neg c9]
      refine s_sub ok rfl ?_
      refine s_stI4 ok rfl rfl ?_
      refine s_inc3 ok rfl rfl ?_
      refine s_ldI4 ok rfl ?_
      refine s_if_eq ok rfl ⟨by omega, by omega⟩ (fun c63 => ?_) (fun c63 => ?_)
      · first
          | exact absurd c63 (by have := zif_f c45; have := fB1_in (X := tc X sz) (a := a) a0; omega)
          | (refine s_ldA0 ok rfl ?_
             refine s_getJ 20 ok rfl rfl rfl rfl ?_
             have c9 := zif_t c45
             rw [p42, if_pos c9]
             have d7 : dgs (tc X sz a) ≤ 7 := by unfold dgs; (repeat' split) <;> omega
             refine s_ldA0 ok rfl ?_
             refine s_getJ 22 ok rfl rfl rfl rfl ?_
             rw [show g42 59 22 = sz from (xg.y y42).1.2]
             refine s_c_lt ok rfl ⟨by omega, by omega⟩ ⟨by omega, by omega⟩ (fun c74 => ?_) (fun c74 => ?_)
             · have c9 := zif_t c45
               rw [eT, if_pos c9, if_pos c74] at hT
               refine ih g42 _ _ (y.tr y42) (by rw [p42, if_pos c9]) (by omega) (Or.inl c74) (by omega) hT (fun q => ?_)
               have := hN q
               rw [eN, if_pos c74] at this
               omega
             · first
                 | exact absurd rfl c63
                 | (have c9 := zif_f c45
                    have eT2 : T = fB1 (tc X sz) a := by rw [← hT, eT, if_neg c9]
                    have hh := hQ g42 (m + 1) (y.tr y42) (fun q => by omega)
                    rw [if_neg (by omega), eT2] at hh
                    exact hh)
                 | (have c9 := zif_t c45
                    have eT2 : T = -1 := by rw [← hT, eT, if_pos c9, if_neg (by omega)]
                    have hh := hQ g42 (m + 1) (y.tr y42) (fun q => by have := hN q; rw [eN, if_neg (by omega)] at this; omega)
                    rw [if_pos eT2] at hh
                    exact hh))
      · first
          | exact absurd rfl c63
          | (have c9 := zif_f c45
             have eT2 : T = fB1 (tc X sz) a := by rw [← hT, eT, if_neg c9]
             have hh := hQ g42 (m + 1) (y.tr y42) (fun q => by omega)
             rw [if_neg (by omega), eT2] at hh
             exact hh)
          | (have c9 := zif_t c45
             have eT2 : T = -1 := by rw [← hT, eT, if_pos c9, if_neg (by omega)]
             have hh := hQ g42 (m + 1) (y.tr y42) (fun q => by have := hN q; rw [eN, if_neg (by omega)] at this; omega)
             rw [if_pos eT2] at hh
             exact hh)
    · refine s_inc3 ok rfl rfl ?_
      refine s_ldI4 ok rfl ?_
      refine s_if_eq ok rfl ⟨by omega, by omega⟩ (fun c63 => ?_) (fun c63 => ?_)
      · first
          | exact absurd c63 (by have := zif_f c45; have := fB1_in (X := tc X sz) (a := a) a0; omega)
          | (refine s_ldA0 ok rfl ?_
             refine s_getJ 20 ok rfl rfl rfl rfl ?_
             have c9 := zif_t c45
             rw [p42, if_pos c9]
             have d7 : dgs (tc X sz a) ≤ 7 := by unfold dgs; (repeat' split) <;> omega
             refine s_ldA0 ok rfl ?_
             refine s_getJ 22 ok rfl rfl rfl rfl ?_
             rw [show g42 59 22 = sz from (xg.y y42).1.2]
             refine s_c_lt ok rfl ⟨by omega, by omega⟩ ⟨by omega, by omega⟩ (fun c74 => ?_) (fun c74 => ?_)
             · have c9 := zif_t c45
               rw [eT, if_pos c9, if_pos c74] at hT
               refine ih g42 _ _ (y.tr y42) (by rw [p42, if_pos c9]) (by omega) (Or.inl c74) (by omega) hT (fun q => ?_)
               have := hN q
               rw [eN, if_pos c74] at this
               omega
             · first
                 | exact absurd rfl c63
                 | (have c9 := zif_f c45
                    have eT2 : T = fB1 (tc X sz) a := by rw [← hT, eT, if_neg c9]
                    have hh := hQ g42 (m + 1) (y.tr y42) (fun q => by omega)
                    rw [if_neg (by omega), eT2] at hh
                    exact hh)
                 | (have c9 := zif_t c45
                    have eT2 : T = -1 := by rw [← hT, eT, if_pos c9, if_neg (by omega)]
                    have hh := hQ g42 (m + 1) (y.tr y42) (fun q => by have := hN q; rw [eN, if_neg (by omega)] at this; omega)
                    rw [if_pos eT2] at hh
                    exact hh))
      · first
          | exact absurd rfl c63
          | (have c9 := zif_f c45
             have eT2 : T = fB1 (tc X sz) a := by rw [← hT, eT, if_neg c9]
             have hh := hQ g42 (m + 1) (y.tr y42) (fun q => by omega)
             rw [if_neg (by omega), eT2] at hh
             exact hh)
          | (have c9 := zif_t c45
             have eT2 : T = -1 := by rw [← hT, eT, if_pos c9, if_neg (by omega)]
             have hh := hQ g42 (m + 1) (y.tr y42) (fun q => by have := hN q; rw [eN, if_neg (by omega)] at this; omega)
             rw [if_pos eT2] at hh
             exact hh)
theorem lp_day2 {E : zE} {d : Nat} {k : Nat → Nat × Nat} {h : Nat → Int → Int} {r : Nat → Int → Option Nat} {l : Nat → Nat → Int64} {n : Nat} {Q : zQ} {a9 sz t N : Int} {X : Int → Int} {u2 : Int32} {TL : Int × (Int → Int)} (sz0 : 0 ≤ sz ∧ sz ≤ 100) (hQ : ∀ g u v w, dYd h g → (TL.1 = 0 → g 60 = TL.2 ∧ pS TL.2) → (¬ TL.1 = 0 → ∀ j, 0 ≤ j → j < 59 → g 60 j = h 60 j) → zGo E (d + 4) M_X12_day 0 0 Q 161 ([some (.ref 59), some (.int (iI (t))), some (.int u2), some (.int (iI (N))), some (.int (iI (TL.1))), u, v, w], [], zJ (k, g, r, l, n), 0, 0)) : ∀ c : Nat, ∀ (c2 : Nat) (g : Nat → Int → Int) (a : Int) (p : Int → Int) (u v w : Option Value), c = c2 + 1 → a ≤ 200 → znl u = true → znl v = true → dYd h g → tX g a9 sz X → g 60 = p → pS p → (∀ j, 0 ≤ j → j < 59 → g 62 j = h 60 j) → g 59 20 = a → 0 ≤ a → (a < sz → sz < a + (c2 : Int)) → (a < sz → fB (tc X sz) sz (c2 + 1) a = -1) → tl (tc X sz) sz c2 a p = TL → zGo E (d + 4) M_X12_day 0 0 Q 93 ([some (.ref 59), some (.int (iI (t))), some (.int u2), some (.int (iI (N))), some (.int (iI (0))), u, v, w], [], zJ (k, g, r, l, n), 0, 0) := by
  have ok := ok_X12_day
  intro c
  induction c with
  | zero =>
    intros
    omega
  | succ c ih =>
    intro c2 g a p u v w hc2 a200 hu hv f xg gp hS g62 ga a0 a2 hF hT
    obtain rfl : c = c2 := by omega
    refine s_ldI4 ok rfl ?_
    refine s_if_eq ok rfl ⟨by omega, by omega⟩ (fun c95 => ?_) (fun c95 => ?_)
    · refine s_ldA0 ok rfl ?_
      refine s_getJ 20 ok rfl rfl rfl rfl ?_
      rw [ga]
      refine s_ldA0 ok rfl ?_
      refine s_getJ 22 ok rfl rfl rfl rfl ?_
      rw [xg.1.2]
      refine s_c_ge ok rfl ⟨by omega, by omega⟩ ⟨by omega, by omega⟩ (fun c106 => ?_) (fun c106 => ?_)
      · first
          | exact absurd rfl c95
          | (rw [tl_end (by omega)] at hT
             have hh := hQ g u v w f (fun _ => by rw [← hT]; exact ⟨gp, hS⟩) (fun z => by rw [← hT] at z; exact absurd rfl z)
             rw [← hT] at hh
             exact hh)
      · obtain ⟨c3, rfl⟩ : ∃ c3, c = c3 + 1 := ⟨c - 1, by have := a2 c106; omega⟩
        have eT : tl (tc X sz) sz (c3 + 1) a p = if a < sz then (if dOk p ((tc X sz) a) (nN (tc X sz) a) = 1 then tl (tc X sz) sz c3 (a + dgs ((tc X sz) a) + 2) (dPl p ((tc X sz) a) (nN (tc X sz) a)) else (-2000 - a, p)) else (0, p) := rfl
        have d7 : dgs ((tc X sz) a) ≤ 7 := by unfold dgs; (repeat' split) <;> omega
        refine s_ldA0 ok rfl ?_
        refine s_getJ 20 ok rfl rfl rfl rfl ?_
        rw [ga]
        refine s_stI5 ok rfl rfl ?_
        refine s_ldA0 ok rfl ?_
        refine s_callV ok rfl rfl rfl rfl rfl rfl (ct_here (h := g) xg ga a0 (by omega)) ?_
        refine s_stI6 ok rfl rfl ?_
        have hF9 := hF c106
        have eF : fB (tc X sz) sz (c3 + 1 + 1) a = if fB1 (tc X sz) a = -1 then (if a + dgs ((tc X sz) a) + 2 < sz then fB (tc X sz) sz (c3 + 1) (a + dgs ((tc X sz) a) + 2) else -1) else fB1 (tc X sz) a := rfl
        have fi := fB1_in (X := (tc X sz)) (a := a) a0
        have hf : fB1 (tc X sz) a = -1 := by
          rw [eF] at hF9
          split at hF9
          · assumption
          · omega
        rw [eF, if_pos hf] at hF9
        have hd0 : ¬ dgs ((tc X sz) a) = 0 := by
          unfold fB1 at hf
          split at hf
          · omega
          · assumption
        have hb9 := hr_b (E := X) (sz := sz) (a := a)
        have hc9 : (tc X sz) a = 114 ∨ (tc X sz) a = 116 ∨ (tc X sz) a = 112 ∨ (tc X sz) a = 108 ∨ (tc X sz) a = 103 ∨ (tc X sz) a = 115 ∨ (tc X sz) a = 104 ∨ (tc X sz) a = 120 := Classical.byContradiction fun q => hd0 (by unfold dgs; (repeat (first | rw [if_neg (by omega)])))
        have eh : hr X sz a = (tc X sz) a := (hr_c xg.2.2.2.2 a0 (by omega) (by omega)).mpr rfl
        rw [eh]
        refine s_ldA0 ok rfl ?_
        refine s_callVx ok rfl rfl rfl rfl rfl rfl (ct_readsStatement (h := g) xg ga a0 (by omega)) (fun σ122 hσ122 => ?_)
        obtain ⟨g122, rfl, hg122⟩ := hσ122
        obtain ⟨y122, p122, n122⟩ := hg122
        refine s_stI7 ok rfl rfl ?_
        refine s_ldA0 ok rfl ?_
        refine s_ldI6 ok rfl ?_
        refine s_callVx ok rfl rfl rfl rfl rfl rfl (ct_isDone (h := g122) (by rw [y122.1 60 (by omega) (by omega), gp]; exact hS.1) (c9 := (tc X sz) a) (by omega) (by omega) (fun i i0 i1 => by rw [n122 hf i i0 i1]; exact (nN_R hf a0).1 i i0 i1)) (fun σ130 hσ130 => ?_)
        obtain ⟨g130, rfl, hg130⟩ := hσ130
        obtain ⟨b130, q130⟩ := hg130
        have e60 : g122 60 = p := (y122.1 60 (by omega) (by omega)).trans gp
        have eO : dOk (g122 60) ((tc X sz) a) (g122 76) = dOk p ((tc X sz) a) (nN (tc X sz) a) := by rw [e60]; exact dOk_cg (n122 hf)
        have eP : dPl (g122 60) ((tc X sz) a) (g122 76) = dPl p ((tc X sz) a) (nN (tc X sz) a) := by rw [e60]; exact dPl_cg (n122 hf)
        refine s_if_eq ok rfl (by have := dOk_01 (p := g122 60) (c := (tc X sz) a) (N := g122 76); exact ⟨by omega, by omega⟩) (fun c133 => ?_) (fun c133 => ?_)
        · have c0 : ¬ dOk p ((tc X sz) a) (nN (tc X sz) a) = 1 := by rw [← eO]; omega
          rw [eT, if_pos c106, if_neg c0] at hT
          refine s_ci ok rfl ?_
          refine s_ldI5 ok rfl ?_
          refine s_sub ok rfl ?_
          refine s_stI4 ok rfl rfl ?_
          refine s_ldA0 ok rfl ?_
          refine s_getF ok rfl rfl rfl rfl ?_
          refine s_ldA0 ok rfl ?_
          refine s_getF ok rfl rfl rfl rfl ?_
          refine s_callSv ok rfl rfl rfl rfl (ct_lays (x := 62) (y := 60) rfl rfl (by omega)) ?_
          refine s_goto ok rfl ?_
          first
            | (refine ih c3 g130 _ _ _ _ _ rfl (by omega) rfl rfl ((f.y y122).p b130) ((xg.y y122).p b130) ((q130 (by rw [eO]; exact c1)).trans eP) (dPl_S hS (nN_R hf a0) c1) (fun j j0 j1 => ?_) ?_ (by omega) (fun q => by have := a2 c106; omega) (fun q => ?_) hT
               · rw [b130 62 (by omega), y122.1 62 (by omega) (by omega)]
                 exact g62 j j0 j1
               · rw [b130 59 (by omega), p122, if_pos hf]
               · rw [if_pos q] at hF9
                 exact hF9)
            | (have hh := fun hq => hQ (zly 62 60 59 g130) (some (.int (iI a))) (some (.int (iI ((tc X sz) a)))) (some (.int (iI (if fB1 (tc X sz) a = -1 then 1 else 0)))) (((f.y y122).p b130).p (fun m hm => funext fun b => if_neg (fun z => hm z.1))) (fun z => by rw [← hT] at z; exact absurd z hq) (fun _ j j0 j1 => by
                 have e1 : zly 62 60 59 g130 60 j = g130 62 j := if_pos ⟨rfl, j0, j1⟩
                 rw [e1, b130 62 (by omega), y122.1 62 (by omega) (by omega)]
                 exact g62 j j0 j1)
               have hh := hh (by show ¬ (-2000 - a) = 0; omega)
               rw [← hT] at hh
               refine s_ldI4 ok rfl ?_
               refine s_if_eq ok rfl (by exact ⟨by omega, by omega⟩) (fun c95b => ?_) (fun c95b => ?_)
               · omega
               · exact hh)
        · have c1 : dOk p ((tc X sz) a) (nN (tc X sz) a) = 1 := by rw [← eO]; have := dOk_01 (p := g122 60) (c := (tc X sz) a) (N := g122 76); omega
          rw [eT, if_pos c106, if_pos c1] at hT
          refine s_goto ok rfl ?_
          first
            | (refine ih c3 g130 _ _ _ _ _ rfl (by omega) rfl rfl ((f.y y122).p b130) ((xg.y y122).p b130) ((q130 (by rw [eO]; exact c1)).trans eP) (dPl_S hS (nN_R hf a0) c1) (fun j j0 j1 => ?_) ?_ (by omega) (fun q => by have := a2 c106; omega) (fun q => ?_) hT
               · rw [b130 62 (by omega), y122.1 62 (by omega) (by omega)]
                 exact g62 j j0 j1
               · rw [b130 59 (by omega), p122, if_pos hf]
               · rw [if_pos q] at hF9
                 exact hF9)
            | (have hh := fun hq => hQ (zly 62 60 59 g130) (some (.int (iI a))) (some (.int (iI ((tc X sz) a)))) (some (.int (iI (if fB1 (tc X sz) a = -1 then 1 else 0)))) (((f.y y122).p b130).p (fun m hm => funext fun b => if_neg (fun z => hm z.1))) (fun z => by rw [← hT] at z; exact absurd z hq) (fun _ j j0 j1 => by
                 have e1 : zly 62 60 59 g130 60 j = g130 62 j := if_pos ⟨rfl, j0, j1⟩
                 rw [e1, b130 62 (by omega), y122.1 62 (by omega) (by omega)]
                 exact g62 j j0 j1)
               have hh := hh (by show ¬ (-2000 - a) = 0; omega)
               rw [← hT] at hh
               refine s_ldI4 ok rfl ?_
               refine s_if_eq ok rfl (by exact ⟨by omega, by omega⟩) (fun c95b => ?_) (fun c95b => ?_)
               · omega
               · exact hh)
    · first
        | exact absurd rfl c95
        | (rw [tl_end (by omega)] at hT
           have hh := hQ g u v w f (fun _ => by rw [← hT]; exact ⟨gp, hS⟩) (fun z => by rw [← hT] at z; exact absurd rfl z)
           rw [← hT] at hh
           exact hh)
theorem fB_in {X : Int → Int} {sz : Int} : ∀ (c : Nat) (a : Int), 0 ≤ a → fB X sz c a = -1 ∨ (0 ≤ fB X sz c a ∧ fB X sz c a ≤ a + 9 * c)
  | 0, _, _ => Or.inl rfl
  | c + 1, a, a0 => by
    have i := fB_in (X := X) (sz := sz) c (a + dgs (X a) + 2) (by omega)
    have j := fB1_in (X := X) (a := a) a0
    have d : dgs (X a) ≤ 7 := by unfold dgs; (repeat' split) <;> omega
    unfold fB
    (repeat' split) <;> omega
theorem tl_zb {X : Int → Int} {sz : Int} : ∀ (c : Nat) (a : Int) (p : Int → Int), 0 ≤ a → a ≤ 1000 → sz ≤ 100 → zb (tl X sz c a p).1
  | 0, _, _, _, _, _ => by show zb 0; exact ⟨by omega, by omega⟩
  | c + 1, a, p, a0, a1, s1 => by
    have d : dgs (X a) ≤ 7 := by unfold dgs; (repeat' split) <;> omega
    unfold tl
    split
    · split
      · exact tl_zb c _ _ (by omega) (by omega) s1
      · exact ⟨by show _ ≤ -2000 - a; omega, by show -2000 - a < _; omega⟩
    · exact ⟨by show _ ≤ (0 : Int); omega, by show (0 : Int) < _; omega⟩
theorem ct_day {E : zE} {d : Nat} {k : Nat → Nat × Nat} {h : Nat → Int → Int} {r : Nat → Int → Option Nat} {l : Nat → Nat → Int64} {n : Nat} (hp : pS (h 60)) (hk : dKp h) {t : Int} (zt : zb t) (hb : sWR h t 0 = 0 → ∀ j, 0 ≤ j → j < h 84 t → -128 ≤ h 85 (100 * t + j) ∧ h 85 (100 * t + j) ≤ 127) : zCT E (d + 4) M_X12_day [.ref 59, .int (iI (t))] (zJ (k, h, r, l, n)) 0 0 (zVx (.int (iI (if sWR h t 0 = 0 then (if fB (tc (fun j => h 85 (100 * t + j)) (h 84 t)) (h 84 t) 102 0 = -1 then (if (tl (tc (fun j => h 85 (100 * t + j)) (h 84 t)) (h 84 t) 101 0 (h 60)).1 = 0 then cN (tc (fun j => h 85 (100 * t + j)) (h 84 t)) (h 84 t) 102 0 else (tl (tc (fun j => h 85 (100 * t + j)) (h 84 t)) (h 84 t) 101 0 (h 60)).1) else -1000 - fB (tc (fun j => h 85 (100 * t + j)) (h 84 t)) (h 84 t) 102 0) else sWR h t 0))) (zG k r l n (fun g => dYd h g ∧ (if sWR h t 0 = 0 ∧ fB (tc (fun j => h 85 (100 * t + j)) (h 84 t)) (h 84 t) 102 0 = -1 ∧ (tl (tc (fun j => h 85 (100 * t + j)) (h 84 t)) (h 84 t) 101 0 (h 60)).1 = 0 then g 60 = (tl (tc (fun j => h 85 (100 * t + j)) (h 84 t)) (h 84 t) 101 0 (h 60)).2 ∧ pS (tl (tc (fun j => h 85 (100 * t + j)) (h 84 t)) (h 84 t) 101 0 (h 60)).2 else ∀ j, 0 ≤ j → j < 59 → g 60 j = h 60 j)))) := by
  have ok := ok_X12_day
  refine zCT_of pn_X12_day (Nat.le_of_ble_eq_true rfl) ?_
  show zGo _ _ _ _ _ _ 0 ([some (.ref 59), some (.int (iI (t))), none, none, none, none, none, none], [], _, _, _)
  obtain ⟨w0, w1, w2⟩ := sWR_in (h := h) (x := t) (b := 0)
  have s0 := hk.2.2.1 t
  refine s_ldA0 ok rfl ?_
  refine s_ldI1 ok rfl ?_
  refine s_ci ok rfl ?_
  refine s_callV ok rfl rfl rfl rfl rfl rfl (ct_wrongRow zt ⟨by omega, by omega⟩ hk.1 hk.2.1) ?_
  refine s_stI2 ok rfl rfl ?_
  refine s_ldI2 ok rfl ?_
  refine s_if_eq ok rfl (by first | exact hb _ _ | exact ⟨by omega, by omega⟩) (fun c8 => ?_) (fun c8 => ?_)
  · obtain ⟨x0, x1⟩ := w2 c8
    refine s_ldA0 ok rfl ?_
    refine s_ci ok rfl ?_
    refine s_ldI1 ok rfl ?_
    refine s_mul ok rfl ?_
    refine s_putJ 21 ok rfl rfl rfl rfl (fun q => by cases q) ?_
    refine s_ldA0 ok rfl ?_
    refine s_ldA0 ok rfl ?_
    refine s_getF ok rfl rfl rfl rfl ?_
    refine s_ldI1 ok rfl ?_
    refine s_iald ok rfl (by exact rfl) (by exact rfl) (by omega) (by omega) ?_
    refine zgo_eq (by rw [show zv h 59 21 (100 * t) 84 t = h 84 t from congrFun (zv_other (by omega)) t]) ?_
    refine s_putJ 22 ok rfl rfl rfl rfl (fun q => by cases q) ?_
    refine s_ldA0 ok rfl ?_
    refine s_ci ok rfl ?_
    refine s_putJ 20 ok rfl rfl rfl rfl (fun q => by cases q) ?_
    refine s_ci ok rfl ?_
    refine s_stI3 ok rfl rfl ?_
    refine s_ci ok rfl ?_
    refine s_stI4 ok rfl rfl ?_
    have e9 : tX (zv (zv (zv h 59 21 (100 * t)) 59 22 (h 84 t)) 59 20 0) (100 * t) (h 84 t) (fun j => h 85 (100 * t + j)) := ⟨⟨by rw [zv_at (by omega), zv_at (by omega), zv_is], by rw [zv_at (by omega), zv_is]⟩, ⟨by omega, by omega⟩, s0, fun j _ _ => rfl, fun j j0 j1 => hb c8 j j0 j1⟩
    refine lp_day1 (E := E) (d := d) (k := k) (r := r) (l := l) (n := n) (h := (zv (zv (zv h 59 21 (100 * t)) 59 22 (h 84 t)) 59 20 0)) (T := fB (tc (fun j => h 85 (100 * t + j)) (h 84 t)) (h 84 t) 102 0) (NT := cN (tc (fun j => h 85 (100 * t + j)) (h 84 t)) (h 84 t) 102 0) e9 s0 (fun g N y hN => ?_) 102 _ 0 0 tY.rf zv_is (by omega) (Or.inr rfl) (by omega) rfl (fun _ => by omega)
    have f0 : dYd h g := by
      have z : dYd h (zv (zv (zv h 59 21 (100 * t)) 59 22 (h 84 t)) 59 20 0) := ⟨fun m h1 h2 h3 h4 => by rw [zv_other h1, zv_other h1, zv_other h1], fun j hj => by rw [zv_at (by omega), zv_at (by omega), zv_at (by omega)]⟩
      exact z.y y
    refine s_ldA0 ok rfl ?_
    refine s_getF ok rfl rfl rfl rfl ?_
    refine s_ldA0 ok rfl ?_
    refine s_getF ok rfl rfl rfl rfl ?_
    refine s_callSv ok rfl rfl rfl rfl (ct_lays (x := 60) (y := 62) rfl rfl (by omega)) ?_
    refine s_ldA0 ok rfl ?_
    refine s_ci ok rfl ?_
    refine s_putJ 20 ok rfl rfl rfl rfl (fun q => by cases q) ?_
    have f1 : dYd h (zv (zly 60 62 59 g) 59 20 0) := by
      refine ⟨fun m h1 h2 h3 h4 => ?_, fun j hj => ?_⟩
      · rw [zv_other h1]
        have : zly 60 62 59 g m = g m := funext fun b => if_neg (fun z => h3 z.1)
        rw [this]
        exact f0.1 m h1 h2 h3 h4
      · rw [zv_at (by omega)]
        have : zly 60 62 59 g 59 j = g 59 j := if_neg (fun z => by omega)
        rw [this]
        exact f0.2 j hj
    have g60 : g 60 = h 60 := y.1 60 (by omega) (by omega)
    by_cases hT : fB (tc (fun j => h 85 (100 * t + j)) (h 84 t)) (h 84 t) 102 0 = -1
    · rw [show iI (if fB (tc (fun j => h 85 (100 * t + j)) (h 84 t)) (h 84 t) 102 0 = -1 then 0 else -1000 - fB (tc (fun j => h 85 (100 * t + j)) (h 84 t)) (h 84 t) 102 0) = iI 0 by rw [if_pos hT]]
      refine lp_day2 (E := E) (d := d) (k := k) (r := r) (l := l) (n := n) (h := h) (a9 := 100 * t) (X := (fun j => h 85 (100 * t + j))) (TL := tl (tc (fun j => h 85 (100 * t + j)) (h 84 t)) (h 84 t) 101 0 (h 60)) s0 (fun g2 u2 v2 w2 f2 q1 q2 => ?_) 102 101 _ 0 (h 60) none none none rfl (by omega) rfl rfl f1 ?_ ?_ hp ?_ ?_ (by omega) (fun _ => by omega) (fun _ => hT) rfl
      · refine s_ldI4 ok rfl ?_
        refine s_if_eq ok rfl (tl_zb 101 _ _ (by omega) (by omega) (by omega)) (fun c163 => ?_) (fun c163 => ?_)
        · refine s_ldI3 ok rfl ?_
          refine s_goto ok rfl ?_
          refine s_retI ok rfl ⟨congrArg (fun z => some (Value.int (iI z))) ((if_pos c8).trans ((if_pos hT).trans (by first | (rw [if_pos c163]; exact (hN hT).symm) | exact if_neg c163))).symm, _, rfl, f2, (by first | (rw [if_pos (show sWR h t 0 = 0 ∧ fB (tc (fun j => h 85 (100 * t + j)) (h 84 t)) (h 84 t) 102 0 = -1 ∧ (tl (tc (fun j => h 85 (100 * t + j)) (h 84 t)) (h 84 t) 101 0 (h 60)).1 = 0 from ⟨c8, hT, c163⟩)]; exact q1 c163) | (rw [if_neg (fun q => c163 q.2.2)]; exact q2 c163))⟩
        · refine s_ldI4 ok rfl ?_
          refine s_retI ok rfl ⟨congrArg (fun z => some (Value.int (iI z))) ((if_pos c8).trans ((if_pos hT).trans (by first | (rw [if_pos c163]; exact (hN hT).symm) | exact if_neg c163))).symm, _, rfl, f2, (by first | (rw [if_pos (show sWR h t 0 = 0 ∧ fB (tc (fun j => h 85 (100 * t + j)) (h 84 t)) (h 84 t) 102 0 = -1 ∧ (tl (tc (fun j => h 85 (100 * t + j)) (h 84 t)) (h 84 t) 101 0 (h 60)).1 = 0 from ⟨c8, hT, c163⟩)]; exact q1 c163) | (rw [if_neg (fun q => c163 q.2.2)]; exact q2 c163))⟩
      · have x9 := e9.y y
        obtain ⟨⟨x1, x2⟩, x3, x4, x5, x6⟩ := x9
        have e59 : ∀ j, ¬ j = 20 → zv (zly 60 62 59 g) 59 20 0 59 j = g 59 j := fun j hj => by
          rw [zv_at hj]
          exact if_neg (fun z => by omega)
        refine ⟨⟨(e59 21 (by omega)).trans x1, (e59 22 (by omega)).trans x2⟩, x3, x4, fun j j0 j1 => ?_, x6⟩
        rw [zv_other (by omega)]
        have : zly 60 62 59 g 85 (100 * t + j) = g 85 (100 * t + j) := if_neg (fun z => by omega)
        rw [this]
        exact x5 j j0 j1
      · rw [zv_other (by omega)]
        have : zly 60 62 59 g 60 = g 60 := funext fun b => if_neg (fun z => by omega)
        rw [this, g60]
      · intro j j0 j1
        rw [zv_other (by omega)]
        have : zly 60 62 59 g 62 j = g 60 j := if_pos ⟨rfl, j0, j1⟩
        rw [this, g60]
      · exact zv_is
    · rw [show iI (if fB (tc (fun j => h 85 (100 * t + j)) (h 84 t)) (h 84 t) 102 0 = -1 then 0 else -1000 - fB (tc (fun j => h 85 (100 * t + j)) (h 84 t)) (h 84 t) 102 0) = iI (-1000 - fB (tc (fun j => h 85 (100 * t + j)) (h 84 t)) (h 84 t) 102 0) by rw [if_neg hT]]
      have fi := fB_in (X := (tc (fun j => h 85 (100 * t + j)) (h 84 t))) (sz := h 84 t) 102 0 (by omega)
      refine s_ldI4 ok rfl ?_
      refine s_if_eq ok rfl ⟨by omega, by omega⟩ (fun c95 => ?_) (fun c95 => ?_)
      · omega
      · refine s_ldI4 ok rfl ?_
        refine s_if_eq ok rfl ⟨by omega, by omega⟩ (fun c163 => ?_) (fun c163 => ?_)
        · refine s_ldI3 ok rfl ?_
          refine s_goto ok rfl ?_
          refine s_retI ok rfl ⟨congrArg (fun z => some (Value.int (iI z))) (by first | exact absurd c163 (by omega) | exact ((if_pos c8).trans (if_neg hT)).symm), _, rfl, f1, (by rw [if_neg (fun q => hT q.2.1)]; intro j _ _; rw [zv_other (by omega)]; have : zly 60 62 59 g 60 j = g 60 j := if_neg (fun z => by omega); rw [this, g60])⟩
        · refine s_ldI4 ok rfl ?_
          refine s_retI ok rfl ⟨congrArg (fun z => some (Value.int (iI z))) (by first | exact absurd c163 (by omega) | exact ((if_pos c8).trans (if_neg hT)).symm), _, rfl, f1, (by rw [if_neg (fun q => hT q.2.1)]; intro j _ _; rw [zv_other (by omega)]; have : zly 60 62 59 g 60 j = g 60 j := if_neg (fun z => by omega); rw [this, g60])⟩
  · refine s_ldI2 ok rfl ?_
    refine s_retI ok rfl ⟨congrArg (fun z => some (Value.int (iI z))) (if_neg c8).symm, _, rfl, ⟨fun _ _ _ _ _ => rfl, fun _ _ => rfl⟩, (by rw [if_neg (fun q => c8 q.1)]; exact fun _ _ _ => rfl)⟩
