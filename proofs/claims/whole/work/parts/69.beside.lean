/-! the trip beside the reference's day -/
/-- what became of the people, in both -/
def tP (p : Int → Int) (w : Int) (g H : Nat → Int → Int) : Prop := (0 ≤ w → H 69 w < 0) ∧ ∀ t : Int, 0 ≤ t → t < cnP p w → g 44 t = (if H 69 (sg w t) < 0 then -1 else H 69 (sg w t)) ∧ (0 ≤ H 69 (sg w t) → g 45 t = H 70 (sg w t)) ∧ (0 ≤ H 69 (sg w t) → 0 ≤ H 71 (sg w t) → g 46 t = H 71 (sg w t)) ∧ g 47 t = H 74 (sg w t) ∧ g 48 t = H 72 (sg w t) ∧ (H 69 (sg w t) < 0 → H 71 (sg w t) < 0)
/-- who is aboard x -/
def oB (p : Int → Int) (w : Int) (H : Nat → Int → Int) (x : Int) : Int → Bool := fun t => decide (t < cnP p w ∧ H 69 (sg w t) = x ∧ H 71 (sg w t) < 0)
def tB (p : Int → Int) (w dd : Int) (g H : Nat → Int → Int) : Prop := ∀ y : Int, 0 ≤ y → y < 3 * p 0 → y % 3 < dd → g 53 y = H 65 y ∧ mBt (g 52 y) (oB p w H y)
theorem sg_inj {w a b : Int} (h : sg w a = sg w b) : a = b := by
  unfold sg at h
  split at h <;> split at h <;> omega
theorem mBt_cg {m : Int} {f g : Int → Bool} (a : mBt m f) (e : ∀ j : Int, 0 ≤ j → j < 8 → g j = f j) : mBt m g := ⟨a.1, a.2.1, fun j j0 j1 => by rw [e j j0 j1]; exact a.2.2 j j0 j1⟩
theorem dec_cg {a b : Prop} [Decidable a] [Decidable b] (h : a ↔ b) : decide a = decide b := by
  by_cases c : b
  · rw [decide_eq_true c, decide_eq_true (h.mpr c)]
  · rw [decide_eq_false c, decide_eq_false (fun z => c (h.mp z))]
/-- one gets off -/
abbrev uO (g : Nat → Int → Int) (x t a : Int) : Nat → Int → Int := zv (zv (zv g 52 x (zcb (g 52 x) t)) 53 x (g 53 x - g 41 t)) 46 t (g 49 (5 * x + a))
theorem tOff {p : Int → Int} {w dd x a t : Int} {g H : Nat → Int → Int} (tp : tP p w g H) (tb : tB p w dd g H) (e6 : H 60 = p) (t0 : 0 ≤ t) (t1 : t < cnP p w) (c8 : cnP p w ≤ 8) (x0 : 0 ≤ x) (x1 : x < 3 * p 0) (x2 : x % 3 < dd) (pl : g 41 t = pPl p (sg w t)) (mi : g 49 (5 * x + a) = H 64 x) (m0 : 0 ≤ H 64 x) (ha : H 63 x = a) (hc : H 69 (sg w t) = x ∧ H 71 (sg w t) < 0 ∧ pOf p (sg w t) = a) : tP p w (uO g x t a) (sGO1 x (sg w t) H) ∧ tB p w dd (uO g x t a) (sGO1 x (sg w t) H) := by
  have eH : sGO1 x (sg w t) H = zv (zv (zv H 71 (sg w t) (H 64 x)) 65 x (H 65 x - pPl p (sg w t))) 59 19 (H 59 19 + 1) := by
    unfold sGO1
    rw [e6, ha, if_pos hc]
  rw [eH]
  have b69 : ∀ q, zv (zv (zv H 71 (sg w t) (H 64 x)) 65 x (H 65 x - pPl p (sg w t))) 59 19 (H 59 19 + 1) 69 q = H 69 q := fun _ => rfl
  have b71 : ∀ q, zv (zv (zv H 71 (sg w t) (H 64 x)) 65 x (H 65 x - pPl p (sg w t))) 59 19 (H 59 19 + 1) 71 q = if q = sg w t then H 64 x else H 71 q := fun _ => rfl
  have b65 : ∀ q, zv (zv (zv H 71 (sg w t) (H 64 x)) 65 x (H 65 x - pPl p (sg w t))) 59 19 (H 59 19 + 1) 65 q = if q = x then H 65 x - pPl p (sg w t) else H 65 q := fun _ => rfl
  have c46 : ∀ q, uO g x t a 46 q = if q = t then g 49 (5 * x + a) else g 46 q := fun _ => rfl
  have c52 : ∀ q, uO g x t a 52 q = if q = x then zcb (g 52 x) t else g 52 q := fun _ => rfl
  have c53 : ∀ q, uO g x t a 53 q = if q = x then g 53 x - g 41 t else g 53 q := fun _ => rfl
  refine ⟨⟨tp.1, fun u u0 u1 => ?_⟩, fun y y0 y1 y2 => ?_⟩
  · obtain ⟨d1, d2, d3, d4, d5, d6⟩ := tp.2 u u0 u1
    refine ⟨d1, d2, fun z1 z2 => ?_, d4, d5, fun z1 => ?_⟩
    · rw [b71] at z2 ⊢
      rw [c46]
      by_cases e : u = t
      · rw [if_pos e, if_pos (by rw [e]), mi]
      · rw [if_neg (fun z => e (sg_inj z))] at z2 ⊢
        rw [if_neg e]
        exact d3 z1 z2
    · rw [b69] at z1
      rw [b71]
      by_cases e : u = t
      · rw [e] at z1
        omega
      · rw [if_neg (fun z => e (sg_inj z))]
        exact d6 z1
  · obtain ⟨f1, f2⟩ := tb y y0 y1 y2
    rw [b65, c53, c52]
    by_cases e : y = x
    · rw [if_pos e, if_pos e, if_pos e]
      rw [e] at f1 f2 ⊢
      refine ⟨by rw [f1, pl], mBt_clr f2 t0 (by omega) fun j j0 j1 => ?_⟩
      unfold oB
      rw [b69, b71]
      by_cases q : j = t
      · rw [if_pos q, q, if_pos rfl]
        exact decide_eq_false (by omega)
      · rw [if_neg q, if_neg (fun z => q (sg_inj z))]
    · rw [if_neg e, if_neg e, if_neg e]
      refine ⟨f1, mBt_cg f2 fun j j0 j1 => ?_⟩
      unfold oB
      rw [b69, b71]
      by_cases q : j = t
      · rw [q, if_pos rfl]
        exact dec_cg (by constructor <;> intro z <;> omega)
      · rw [if_neg (fun z => q (sg_inj z))]
/-- one is asked -/
abbrev uC (p : Int → Int) (s : Int) (g : Nat → Int → Int) (x t mi : Int) : Prop := pCm p s ≤ mi ∧ ((x % 3 = 0 ∧ zbt (p 1) (x / 3) = 0) ∨ (0 < x % 3 ∧ zbt (g 48 t) (x - 1) = 1)) ∧ ¬ pTk p s (x % 3) = 0
abbrev uB (p : Int → Int) (s : Int) (g : Nat → Int → Int) (x t mi : Int) : Prop := uC p s g x t mi ∧ g 53 x + pPl p s ≤ p (11 + 2 * (x / 3) + 1)
abbrev uM (p : Int → Int) (s : Int) (g : Nat → Int → Int) (x t mi : Int) : Prop := (0 < x % 3 ∧ ¬ (0 < x % 3 ∧ zbt (g 48 t) (x - 1) = 1)) ∨ p 2 + pEx p s < max 0 (pCm p s - mi)
def uN (p : Int → Int) (s : Int) (g : Nat → Int → Int) (x t mi : Int) : Nat → Int → Int :=
  if uB p s g x t mi then g
  else if uM p s g x t mi then (if uC p s g x t mi then zv g 47 t (g 47 t + 1) else g)
  else zv (if uC p s g x t mi then zv g 47 t (g 47 t + 1) else g) 48 t (zsb (g 48 t) x)
abbrev uT (g : Nat → Int → Int) (x t mi : Int) : Nat → Int → Int := zv (zv (zv (zv g 44 t x) 45 t mi) 52 x (zsb (g 52 x) t)) 53 x (g 53 x + g 41 t)
def uA (p : Int → Int) (s : Int) (g : Nat → Int → Int) (x t mi : Int) : Nat → Int → Int := if uB p s g x t mi then uT g x t mi else uN p s g x t mi
theorem tAsk {p : Int → Int} {w dd x t : Int} {g H : Nat → Int → Int} (tp : tP p w g H) (tb : tB p w dd g H) (e6 : H 60 = p) (t0 : 0 ≤ t) (t1 : t < cnP p w) (c8 : cnP p w ≤ 8) (x0 : 0 ≤ x) (x1 : x < 3 * p 0) (x2 : x % 3 < dd) (pl : g 41 t = pPl p (sg w t)) (hn : H 69 (sg w t) < 0) : tP p w (uA p (sg w t) g x t (H 64 x)) (sTry x (sg w t) H) ∧ tB p w dd (uA p (sg w t) g x t (H 64 x)) (sTry x (sg w t) H) ∧ sTry x (sg w t) H 59 19 = H 59 19 + (if uB p (sg w t) g x t (H 64 x) then 1 else 0) := by
  obtain ⟨a1, a2, a3, a4, a5, a6⟩ := tp.2 t t0 t1
  obtain ⟨q1, q2⟩ := tb x x0 x1 x2
  have wt : 0 ≤ w → ¬ w = sg w t := fun w0 e => by
    have : H 69 w < 0 := tp.1 w0
    unfold sg at e
    split at e <;> omega
  unfold uA uN sTry
  rw [e6, ← a5, ← q1]
  by_cases B : uB p (sg w t) g x t (H 64 x)
  · rw [if_pos B, if_pos B, if_pos B]
    have b69 : ∀ q, zv (zv (zv (zv H 69 (sg w t) x) 70 (sg w t) (H 64 x)) 65 x (g 53 x + pPl p (sg w t))) 59 19 (H 59 19 + 1) 69 q = if q = sg w t then x else H 69 q := fun _ => rfl
    have b70 : ∀ q, zv (zv (zv (zv H 69 (sg w t) x) 70 (sg w t) (H 64 x)) 65 x (g 53 x + pPl p (sg w t))) 59 19 (H 59 19 + 1) 70 q = if q = sg w t then H 64 x else H 70 q := fun _ => rfl
    have b71 : ∀ q, zv (zv (zv (zv H 69 (sg w t) x) 70 (sg w t) (H 64 x)) 65 x (g 53 x + pPl p (sg w t))) 59 19 (H 59 19 + 1) 71 q = H 71 q := fun _ => rfl
    have b65 : ∀ q, zv (zv (zv (zv H 69 (sg w t) x) 70 (sg w t) (H 64 x)) 65 x (g 53 x + pPl p (sg w t))) 59 19 (H 59 19 + 1) 65 q = if q = x then g 53 x + pPl p (sg w t) else H 65 q := fun _ => rfl
    have c44 : ∀ q, uT g x t (H 64 x) 44 q = if q = t then x else g 44 q := fun _ => rfl
    have c45 : ∀ q, uT g x t (H 64 x) 45 q = if q = t then H 64 x else g 45 q := fun _ => rfl
    have c52 : ∀ q, uT g x t (H 64 x) 52 q = if q = x then zsb (g 52 x) t else g 52 q := fun _ => rfl
    have c53 : ∀ q, uT g x t (H 64 x) 53 q = if q = x then g 53 x + g 41 t else g 53 q := fun _ => rfl
    refine ⟨⟨fun w0 => ?_, fun u u0 u1 => ?_⟩, fun y y0 y1 y2 => ?_, rfl⟩
    · rw [b69, if_neg (wt w0)]
      exact tp.1 w0
    · obtain ⟨d1, d2, d3, d4, d5, d6⟩ := tp.2 u u0 u1
      rw [b69, b70, b71, c44, c45]
      by_cases e : u = t
      · subst e
        rw [if_pos rfl, if_pos rfl, if_pos rfl, if_pos rfl, if_neg (by omega)]
        exact ⟨rfl, fun _ => rfl, fun _ z => by have := a6 hn; omega, d4, d5, fun z => by omega⟩
      · have e9 : ¬ sg w u = sg w t := fun z => e (sg_inj z)
        rw [if_neg e, if_neg e9, if_neg e, if_neg e9]
        exact ⟨d1, d2, d3, d4, d5, d6⟩
    · obtain ⟨f1, f2⟩ := tb y y0 y1 y2
      rw [b65, c53, c52]
      by_cases e : y = x
      · rw [if_pos e, if_pos e, if_pos e]
        rw [e] at f1 f2 ⊢
        refine ⟨by rw [pl], mBt_set f2 t0 (by omega) fun j j0 j1 => ?_⟩
        unfold oB
        rw [b69, b71]
        by_cases q : j = t
        · rw [if_pos q, q, if_pos rfl]
          exact decide_eq_true ⟨t1, rfl, a6 hn⟩
        · rw [if_neg q, if_neg (fun z => q (sg_inj z))]
      · rw [if_neg e, if_neg e, if_neg e]
        refine ⟨f1, mBt_cg f2 fun j j0 j1 => ?_⟩
        unfold oB
        rw [b69, b71]
        by_cases q : j = t
        · rw [q, if_pos rfl]
          exact dec_cg (by constructor <;> intro z <;> omega)
        · rw [if_neg (fun z => q (sg_inj z))]
  · rw [if_neg B, if_neg B, if_neg B, if_neg B]
    -- pushed or not
    have K : ∀ g1 H1 : Nat → Int → Int, (g1 = zv g 47 t (g 47 t + 1) ∧ H1 = zv H 74 (sg w t) (H 74 (sg w t) + 1) ∨ g1 = g ∧ H1 = H) → (tP p w g1 H1 ∧ tB p w dd g1 H1 ∧ H1 59 19 = H 59 19 + 0) ∧ (tP p w (zv g1 48 t (zsb (g 48 t) x)) (zv (zv H1 72 (sg w t) (zsb (g 48 t) x)) 73 (sg w t) (H 73 (sg w t) + 1)) ∧ tB p w dd (zv g1 48 t (zsb (g 48 t) x)) (zv (zv H1 72 (sg w t) (zsb (g 48 t) x)) 73 (sg w t) (H 73 (sg w t) + 1)) ∧ (zv (zv H1 72 (sg w t) (zsb (g 48 t) x)) 73 (sg w t) (H 73 (sg w t) + 1)) 59 19 = H 59 19 + 0) := fun g1 H1 hg => by
      have A : tP p w g1 H1 ∧ tB p w dd g1 H1 ∧ H1 59 19 = H 59 19 + 0 := by
        rcases hg with ⟨e1, e2⟩ | ⟨e1, e2⟩
        · subst e1
          subst e2
          refine ⟨⟨tp.1, fun u u0 u1 => ?_⟩, tb, by rw [Int.add_zero]; rfl⟩
          obtain ⟨d1, d2, d3, d4, d5, d6⟩ := tp.2 u u0 u1
          refine ⟨d1, d2, d3, ?_, d5, d6⟩
          show (if u = t then g 47 t + 1 else g 47 u) = if sg w u = sg w t then H 74 (sg w t) + 1 else H 74 (sg w u)
          by_cases e : u = t
          · rw [if_pos e, if_pos (by rw [e]), a4]
          · rw [if_neg e, if_neg (fun z => e (sg_inj z)), d4]
        · subst e1
          subst e2
          exact ⟨tp, tb, (Int.add_zero _).symm⟩
      refine ⟨A, ⟨A.1.1, fun u u0 u1 => ?_⟩, A.2.1, A.2.2⟩
      obtain ⟨d1, d2, d3, d4, d5, d6⟩ := A.1.2 u u0 u1
      refine ⟨d1, d2, d3, d4, ?_, d6⟩
      show (if u = t then zsb (g 48 t) x else g1 48 u) = if sg w u = sg w t then zsb (g 48 t) x else H1 72 (sg w u)
      by_cases e : u = t
      · rw [if_pos e, if_pos (by rw [e])]
      · rw [if_neg e, if_neg (fun z => e (sg_inj z)), d5]
    by_cases C : uC p (sg w t) g x t (H 64 x)
    · have k := K _ _ (Or.inl ⟨rfl, rfl⟩)
      by_cases M : uM p (sg w t) g x t (H 64 x)
      · rw [if_pos M, if_pos M, if_pos C, if_pos C]
        exact k.1
      · rw [if_neg M, if_neg M, if_pos C, if_pos C]
        exact k.2
    · have k := K _ _ (Or.inr ⟨rfl, rfl⟩)
      by_cases M : uM p (sg w t) g x t (H 64 x)
      · rw [if_pos M, if_pos M, if_neg C, if_neg C]
        exact k.1
      · rw [if_neg M, if_neg M, if_neg C, if_neg C]
        exact k.2
