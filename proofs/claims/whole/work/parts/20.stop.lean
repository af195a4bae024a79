/-! A train at a stop -/
/-- what an event leaves: all but the day's own cells, and what of these an event of x does not touch before the end -/
def dFr (x : Int) (h g : Nat → Int → Int) : Prop := (∀ n, n < 63 ∨ 75 < n → ¬ n = 59 → g n = h n) ∧ (∀ j, ¬ j = 19 → g 59 j = h 59 j) ∧ g 63 = h 63 ∧ g 64 = h 64 ∧ g 66 = h 66 ∧ g 67 = h 67 ∧ g 68 = h 68 ∧ ∀ j, ¬ j = x → g 65 j = h 65 j
theorem dFr.rf {x : Int} {h : Nat → Int → Int} : dFr x h h := ⟨fun _ _ _ => rfl, fun _ _ => rfl, rfl, rfl, rfl, rfl, rfl, fun _ _ => rfl⟩
theorem dFr.tr {x : Int} {h g f : Nat → Int → Int} (a : dFr x h g) (b : dFr x g f) : dFr x h f :=
  ⟨fun n h1 h2 => (b.1 n h1 h2).trans (a.1 n h1 h2), fun j hj => (b.2.1 j hj).trans (a.2.1 j hj), b.2.2.1.trans a.2.2.1, b.2.2.2.1.trans a.2.2.2.1, b.2.2.2.2.1.trans a.2.2.2.2.1, b.2.2.2.2.2.1.trans a.2.2.2.2.2.1, b.2.2.2.2.2.2.1.trans a.2.2.2.2.2.2.1, fun j hj => (b.2.2.2.2.2.2.2 j hj).trans (a.2.2.2.2.2.2.2 j hj)⟩
theorem zv_other {α : Type} {f : Nat → Int → α} {n : Nat} {j : Int} {v : α} {a : Nat} (h : ¬ a = n) : zv f n j v a = f a := by
  funext b; rw [zv_eq, if_neg (fun q => h q.1)]
theorem zv_at {α : Type} {f : Nat → Int → α} {n : Nat} {j : Int} {v : α} {b : Int} (h : ¬ b = j) : zv f n j v n b = f n b := by rw [zv_eq, if_neg (fun q => h q.2)]
theorem zv_is {α : Type} {f : Nat → Int → α} {n : Nat} {j : Int} {v : α} : zv f n j v n j = v := by rw [zv_eq, if_pos ⟨rfl, rfl⟩]
theorem dFr_zv {x : Int} {h : Nat → Int → Int} {n : Nat} {j v : Int} (hn : n = 69 ∨ n = 70 ∨ n = 71 ∨ n = 72 ∨ n = 73 ∨ n = 74 ∨ n = 75) : dFr x h (zv h n j v) := by
  refine ⟨fun a h1 h2 => zv_other (by omega), fun b _ => ?_, ?_, ?_, ?_, ?_, ?_, fun b _ => ?_⟩
  · rw [zv_other (by omega)]
  all_goals first | exact zv_other (by omega) | rw [zv_other (by omega)]
theorem dFr_65 {x : Int} {h : Nat → Int → Int} {v : Int} : dFr x h (zv h 65 x v) := by
  refine ⟨fun a h1 h2 => zv_other (by omega), fun b _ => ?_, ?_, ?_, ?_, ?_, ?_, fun b hb => zv_at hb⟩
  · rw [zv_other (by omega)]
  all_goals exact zv_other (by omega)
theorem dFr_59 {x : Int} {h : Nat → Int → Int} {v : Int} : dFr x h (zv h 59 19 v) := by
  refine ⟨fun a h1 h2 => zv_other h2, fun b hb => zv_at hb, ?_, ?_, ?_, ?_, ?_, fun b _ => ?_⟩
  all_goals first | exact zv_other (by omega) | rw [zv_other (by omega)]
/-- the ranges that hold all day long -/
def dP (h : Nat → Int → Int) : Prop := pOK (h 60) ∧ (∀ j, zb (h 69 j)) ∧ (∀ j, zb (h 71 j)) ∧ (∀ p, 0 ≤ p → p < 8 → 0 ≤ h 72 p ∧ h 72 p < 4096) ∧ zb (h 59 17)
/-- what a fold over people keeps: frame, ranges, the changes are small -/
def dK (x : Int) (h g : Nat → Int → Int) (c : Int) : Prop := dFr x h g ∧ dP g ∧ (h 65 x - 2 * c ≤ g 65 x ∧ g 65 x ≤ h 65 x + 2 * c) ∧ (h 59 19 ≤ g 59 19 ∧ g 59 19 ≤ h 59 19 + c)
theorem dK_go {x : Int} {h : Nat → Int → Int} (hd : dP h) (h4 : zb (h 64 x)) : ∀ c : Nat, dK x h (sGO x h c) c ∧ (sGO x h c) 69 = h 69 ∧ (sGO x h c) 72 = h 72
  | 0 => ⟨⟨dFr.rf, hd, by constructor <;> simp [sGO, zfo], by constructor <;> simp [sGO, zfo]⟩, rfl, rfl⟩
  | c + 1 => by
    obtain ⟨⟨i1, i2, i3, i4⟩, i5, i6⟩ := dK_go hd h4 c
    show dK x h (sGO1 x c (sGO x h c)) ((c + 1 : Nat) : Int) ∧ (sGO1 x c (sGO x h c)) 69 = h 69 ∧ (sGO1 x c (sGO x h c)) 72 = h 72
    generalize sGO x h c = g at *
    have q5 := pPl_b (g 60) c
    unfold sGO1
    split
    · refine ⟨⟨i1.tr ((dFr_zv (by omega)).tr (dFr_65.tr dFr_59)), ⟨i2.1, i2.2.1, fun j => ?_, i2.2.2.2.1, i2.2.2.2.2⟩, ?_, ?_⟩, i5, i6⟩
      · show zb (zv g 71 c (g 64 x) 71 j)
        rw [zv_eq]
        split
        · rw [i1.2.2.2.1]; exact h4
        · exact i2.2.2.1 j
      · show h 65 x - 2 * ((c + 1 : Nat) : Int) ≤ zv (zv g 71 c (g 64 x)) 65 x (g 65 x - pPl (g 60) c) 65 x ∧ zv (zv g 71 c (g 64 x)) 65 x (g 65 x - pPl (g 60) c) 65 x ≤ _
        rw [zv_is]
        omega
      · show h 59 19 ≤ zv _ 59 19 (g 59 19 + 1) 59 19 ∧ zv _ 59 19 (g 59 19 + 1) 59 19 ≤ h 59 19 + ((c + 1 : Nat) : Int)
        rw [zv_is]
        omega
    · exact ⟨⟨i1, i2, by omega, by omega⟩, i5, i6⟩
theorem dK_try {x p c : Int} {h g : Nat → Int → Int} (p0 : 0 ≤ p) (p1 : p < 8) (x0 : 0 ≤ x) (x1 : x < 12) (hk : dK x h g c) (hc : 0 ≤ c) : dK x h (sTry x p g) (c + 1) ∧ (sTry x p g) 75 = g 75 ∧ (sTry x p g) 71 = g 71 := by
  obtain ⟨i1, i2, i3, i4⟩ := hk
  have q5 := pPl_b (g 60) p
  have hx9 : zb x := ⟨by omega, by omega⟩
  unfold sTry
  split
  · refine ⟨⟨i1.tr ((dFr_zv (by omega)).tr ((dFr_zv (by omega)).tr (dFr_65.tr dFr_59))), ⟨i2.1, fun j => ?_, i2.2.2.1, i2.2.2.2.1, i2.2.2.2.2⟩, ?_, ?_⟩, rfl, rfl⟩
    · show zb (zv g 69 p x 69 j)
      rw [zv_eq]
      split
      · exact hx9
      · exact i2.2.1 j
    · show h 65 x - 2 * (c + 1) ≤ zv _ 65 x (g 65 x + pPl (g 60) p) 65 x ∧ zv _ 65 x (g 65 x + pPl (g 60) p) 65 x ≤ _
      rw [zv_is]
      omega
    · show h 59 19 ≤ zv _ 59 19 (g 59 19 + 1) 59 19 ∧ zv _ 59 19 (g 59 19 + 1) 59 19 ≤ h 59 19 + (c + 1)
      rw [zv_is]
      omega
  · have w : ∀ g1 : Nat → Int → Int, (g1 = g ∨ g1 = zv g 74 p (g 74 p + 1)) → dK x h g1 (c + 1) ∧ g1 75 = g 75 ∧ g1 71 = g 71 ∧ g1 72 = g 72 := by
      rintro g1 (rfl | rfl)
      · exact ⟨⟨i1, i2, by omega, by omega⟩, rfl, rfl, rfl⟩
      · exact ⟨⟨i1.tr (dFr_zv (by omega)), i2, by show _ ≤ g 65 x ∧ g 65 x ≤ _; omega, by show _ ≤ g 59 19 ∧ g 59 19 ≤ _; omega⟩, rfl, rfl, rfl⟩
    split
    · split
      · obtain ⟨w1, w2, w3, -⟩ := w _ (Or.inr rfl); exact ⟨w1, w2, w3⟩
      · obtain ⟨w1, w2, w3, -⟩ := w _ (Or.inl rfl); exact ⟨w1, w2, w3⟩
    · have y : ∀ g1 : Nat → Int → Int, dK x h g1 (c + 1) → dK x h (zv (zv g1 72 p (zsb (g 72 p) x)) 73 p (g 73 p + 1)) (c + 1) := by
        rintro g1 ⟨j1, j2, j3, j4⟩
        refine ⟨j1.tr ((dFr_zv (by omega)).tr (dFr_zv (by omega))), ⟨j2.1, j2.2.1, j2.2.2.1, fun a a0 a1 => ?_, j2.2.2.2.2⟩, j3, j4⟩
        show 0 ≤ zv g1 72 p (zsb (g 72 p) x) 72 a ∧ zv g1 72 p (zsb (g 72 p) x) 72 a < 4096
        rw [zv_eq]
        split
        · have hm := i2.2.2.2.1 p p0 p1
          exact (zob hm.1 hm.2 x0 x1).2.2.1
        · exact j2.2.2.2.1 a a0 a1
      split
      · obtain ⟨w1, w2, w3, -⟩ := w _ (Or.inr rfl); exact ⟨y _ w1, w2, w3⟩
      · obtain ⟨w1, w2, w3, -⟩ := w _ (Or.inl rfl); exact ⟨y _ w1, w2, w3⟩
abbrev sTa (x : Int) (g : Nat → Int → Int) (c : Nat) : Nat → Int → Int := zfo (fun j s => sTry x (g 75 j) s) g c
theorem dK_ta {x : Int} {g : Nat → Int → Int} {n9 : Nat} (x0 : 0 ≤ x) (x1 : x < 12) (hd : dP g) (ha : ∀ j : Int, 0 ≤ j → j < n9 → 0 ≤ g 75 j ∧ g 75 j < 8) : ∀ c : Nat, c ≤ n9 → dK x g (sTa x g c) c ∧ (sTa x g c) 75 = g 75 ∧ (sTa x g c) 71 = g 71
  | 0, _ => ⟨⟨dFr.rf, hd, by constructor <;> simp [sTa, zfo], by constructor <;> simp [sTa, zfo]⟩, rfl, rfl⟩
  | c + 1, hc => by
    obtain ⟨i1, i2, i3⟩ := dK_ta x0 x1 hd ha c (by omega)
    obtain ⟨a0, a1⟩ := ha c (by omega) (by omega)
    obtain ⟨j1, j2, j3⟩ := dK_try a0 a1 x0 x1 i1 (by omega)
    exact ⟨j1, j2.trans i2, j3.trans i3⟩
/-- a mask of the bits p below n with f p -/
def zmk (f : Int → Bool) : Nat → Int
  | 0 => 0
  | p + 1 => if f p = true then zsb (zmk f p) p else zmk f p
theorem zmk_b (f : Int → Bool) : ∀ c : Nat, c ≤ 12 → 0 ≤ zmk f c ∧ zmk f c < 4096
  | 0, _ => by simp [zmk]
  | c + 1, hc => by
    have := zmk_b f c (by omega)
    unfold zmk
    split
    · exact (zob this.1 this.2 (by omega) (by omega)).2.2.1
    · exact this
theorem zor0 {m : Int} : iI m ||| iI 0 = iI m := by
  apply Int32.toBitVec_inj.1
  show (iI m).toBitVec ||| (iI 0).toBitVec = _
  have : (iI 0).toBitVec = 0#32 := by decide
  rw [this]
  simp
def zabd (h : Nat → Int → Int) (x p : Int) : Bool := decide (h 69 p = x ∧ h 71 p < 0)
def nP (h : Nat → Int → Int) : Nat := (h 60 6).toNat
def sS2 (x : Int) (h : Nat → Int → Int) : Nat → Int → Int := sGO x (zv (zv h 59 19 0) 67 (5 * x + h 63 x) (h 64 x)) (nP h)
def sS3 (x : Int) (h : Nat → Int → Int) : Nat → Int → Int := zar (sS2 x h) 75 (sAs x (sS2 x h) (nP h)).2
def sS4 (x : Int) (h : Nat → Int → Int) : Nat → Int → Int := if h 63 x < 4 then sTa x (sS3 x h) (sAs x (sS2 x h) (nP h)).1 else sS2 x h
def sS5 (x : Int) (h : Nat → Int → Int) : Nat → Int → Int := zv (sS4 x h) 66 x (max (sS4 x h 66 x) (sS4 x h 65 x))
def sS6 (x : Int) (h : Nat → Int → Int) : Nat → Int → Int := zv (sS5 x h) 68 (5 * x + h 63 x) (zmk (zabd (sS5 x h) x) (nP h))
def sRun (p : Int → Int) (x a : Int) : Int := p (7 + a) + p (7 + a) * (x % 3) * p 4 / 10
def sS7 (x : Int) (h : Nat → Int → Int) : Nat → Int → Int := if h 63 x < 4 then zv (sS6 x h) 64 x (h 64 x + ((if 0 < x % 3 ∧ 0 < sS4 x h 59 19 then h 60 5 else 0) + h 60 (7 + h 63 x) + h 60 (7 + h 63 x) * (x % 3) * h 60 4 / 10)) else sS6 x h
/-- the event of the train x -/
def sStop (x : Int) (h : Nat → Int → Int) : Nat → Int → Int := zv (sS7 x h) 63 x (h 63 x + 1)
def dX (h : Nat → Int → Int) (x : Int) : Prop := (0 ≤ h 63 x ∧ h 63 x ≤ 4) ∧ (0 ≤ h 64 x ∧ h 64 x ≤ 400 + 300 * h 63 x) ∧ (-(40 * h 63 x) ≤ h 65 x ∧ h 65 x ≤ 40 * h 63 x) ∧ (0 ≤ h 66 x ∧ h 66 x ≤ 1000)
theorem lp_tryall {E : zE} {d : Nat} {k : Nat → Nat × Nat} {g : Nat → Int → Int} {r : Nat → Int → Option Nat} {l : Nat → Nat → Int64} {n : Nat} {Q : zQ} {x : Int} {n9 : Nat} (x0 : 0 ≤ x) (x1 : x < 12) (hd : dP g) (ha : ∀ j : Int, 0 ≤ j → j < n9 → 0 ≤ g 75 j ∧ g 75 j < 8) (hn9 : n9 ≤ 8) (h4 : 0 ≤ g 64 x ∧ g 64 x ≤ 100000) (h5 : -1000 ≤ g 65 x ∧ g 65 x ≤ 1000) (hQ : ∀ q3, zGo E (d + 5) M_X12_stops 0 0 Q 71 ([some (.ref 59), some (.int (iI x)), some (.int (iI (n9 : Int))), q3, none], [], zJ (k, sTa x g n9, r, l, n), 0, 0)) : ∀ c : Nat, ∀ p : Nat, n9 < p + c → p ≤ n9 → zGo E (d + 5) M_X12_stops 0 0 Q 49 ([some (.ref 59), some (.int (iI x)), some (.int (iI (n9 : Int))), some (.int (iI (p : Int))), none], [], zJ (k, sTa x g p, r, l, n), 0, 0) := by
  have ok := ok_X12_stops
  intro c
  induction c with
  | zero =>
    intros
    omega
  | succ c ih =>
    intro p g1 g2
    obtain ⟨⟨i1, i2, i3, i4⟩, e75, -⟩ := dK_ta x0 x1 hd ha p g2
    have e3 : sTa x g (p + 1) = sTry x (g 75 p) (sTa x g p) := rfl
    generalize eg : sTa x g p = f at *
    refine s_ldI3 ok rfl ?_
    refine s_ldI2 ok rfl ?_
    refine s_c_ge ok rfl ⟨by omega, by omega⟩ ⟨by omega, by omega⟩ (fun c51 => ?_) (fun c51 => ?_)
    · rw [← eg, show p = n9 by omega]
      exact hQ _
    · obtain ⟨b0, b1⟩ := ha p (by omega) (by omega)
      refine s_ldA0 ok rfl ?_
      refine s_ldA0 ok rfl ?_
      refine s_getF ok rfl rfl rfl rfl ?_
      refine s_ldI3 ok rfl ?_
      refine s_iald ok rfl (by exact rfl) (by exact rfl) (by omega) (by omega) ?_
      refine s_ldI1 ok rfl ?_
      refine s_callVv ok rfl rfl rfl rfl rfl rfl (ct_tries (h := f) i2.1 (by rw [e75]; exact b0) (by rw [e75]; exact b1) x0 x1 (by rw [e75]; exact i2.2.2.2.1 _ b0 b1) (by rw [i1.2.2.2.1]; exact h4) ⟨by omega, by omega⟩) ?_
      refine s_inc3 ok rfl rfl ?_
      refine s_goto ok rfl ?_
      have hh := ih (p + 1) (by omega) (by omega)
      rw [e3] at hh
      rw [show f 75 p = g 75 p by rw [e75]]
      exact hh
theorem lp_mask {E : zE} {d : Nat} {k : Nat → Nat × Nat} {h : Nat → Int → Int} {r : Nat → Int → Option Nat} {l : Nat → Nat → Int64} {n : Nat} {Q : zQ} {x : Int} (x0 : 0 ≤ x) (x1 : x < 12) (h9 : ∀ j, zb (h 69 j)) (h1 : ∀ j, zb (h 71 j)) {np : Nat} (hn : h 60 6 = np) (hn8 : np ≤ 8) (hQ : ∀ q3 u, zGo E (d + 5) M_X12_stops 0 0 Q 142 ([some (.ref 59), some (.int (iI x)), some (.int (iI (zmk (zabd h x) np))), some (.int (iI q3)), u], [], zJ (k, h, r, l, n), 0, 0)) : ∀ c : Nat, ∀ (p : Nat) (u : Option Value), np < p + c → p ≤ np → zGo E (d + 5) M_X12_stops 0 0 Q 96 ([some (.ref 59), some (.int (iI x)), some (.int (iI (zmk (zabd h x) p))), some (.int (iI (p : Int))), u], [], zJ (k, h, r, l, n), 0, 0) := by
  have ok := ok_X12_stops
  intro c
  induction c with
  | zero =>
    intros
    omega
  | succ c ih =>
    intro p u g1 g2
    have z69 := h9 p
    have z71 := h1 p
    obtain ⟨m0, m1⟩ := zmk_b (zabd h x) p (by omega)
    refine s_ldI3 ok rfl ?_
    refine s_ldA0 ok rfl ?_
    refine s_getF ok rfl rfl rfl rfl ?_
    refine s_ci ok rfl ?_
    refine s_iald ok rfl (by exact rfl) (by exact rfl) (by omega) (by omega) ?_
    refine s_c_ge ok rfl ⟨by omega, by omega⟩ ⟨by omega, by omega⟩ (fun c104 => ?_) (fun c104 => ?_)
    · rw [show p = np by omega]
      exact hQ _ _
    · refine s_ldI2 ok rfl ?_
      refine s_ldA0 ok rfl ?_
      refine s_getF ok rfl rfl rfl rfl ?_
      refine s_ldI3 ok rfl ?_
      refine s_iald ok rfl (by exact rfl) (by exact rfl) (by omega) (by omega) ?_
      refine s_ldI1 ok rfl ?_
      refine s_c_eq ok rfl z69 ⟨by omega, by omega⟩ (fun c115 => ?_) (fun c115 => ?_)
      · refine s_ldA0 ok rfl ?_
        refine s_getF ok rfl rfl rfl rfl ?_
        refine s_ldI3 ok rfl ?_
        refine s_iald ok rfl (by exact rfl) (by exact rfl) (by omega) (by omega) ?_
        refine s_if_ge ok rfl z71 (fun c124 => ?_) (fun c124 => ?_)
        · refine s_ci ok rfl ?_
          refine s_bin ok rfl (by first | exact (zob (k := p) m0 m1 (by omega) (by omega)).1 | exact zor0) ?_
          refine s_stI2 ok rfl rfl ?_
          refine s_inc3 ok rfl rfl ?_
          refine s_goto ok rfl ?_
          have hh := ih (p + 1) u (by omega) (by omega)
          simp only [zmk, zabd, decide_eq_true_eq] at hh
          first | rw [if_pos ⟨by omega, by omega⟩] at hh | rw [if_neg (by omega)] at hh
          exact hh
        · refine s_ci ok rfl ?_
          refine s_ldI3 ok rfl ?_
          refine s_bin ok rfl (zshl (by omega) (by omega)) ?_
          refine s_goto ok rfl ?_
          refine s_bin ok rfl (by first | exact (zob (k := p) m0 m1 (by omega) (by omega)).1 | exact zor0) ?_
          refine s_stI2 ok rfl rfl ?_
          refine s_inc3 ok rfl rfl ?_
          refine s_goto ok rfl ?_
          have hh := ih (p + 1) u (by omega) (by omega)
          simp only [zmk, zabd, decide_eq_true_eq] at hh
          first | rw [if_pos ⟨by omega, by omega⟩] at hh | rw [if_neg (by omega)] at hh
          exact hh
      · refine s_ci ok rfl ?_
        refine s_bin ok rfl (by first | exact (zob (k := p) m0 m1 (by omega) (by omega)).1 | exact zor0) ?_
        refine s_stI2 ok rfl rfl ?_
        refine s_inc3 ok rfl rfl ?_
        refine s_goto ok rfl ?_
        have hh := ih (p + 1) u (by omega) (by omega)
        simp only [zmk, zabd, decide_eq_true_eq] at hh
        first | rw [if_pos ⟨by omega, by omega⟩] at hh | rw [if_neg (by omega)] at hh
        exact hh
