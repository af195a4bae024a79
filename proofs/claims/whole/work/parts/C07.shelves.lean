/-! the law: shelves, the image, one train more, toss -/
theorem nwV_z {a v : Int} (zv : zb v) : zb (nwV a v) := by
  unfold nwV
  split
  · exact zb_of _
  · split
    · exact zb_of _
    · exact zv
theorem nwV_b {v : Int} : -128 ≤ nwV 0 v ∧ nwV 0 v ≤ 127 := by
  unfold nwV
  rw [if_pos rfl, Int8.toInt_toInt32]
  have a := Int8.le_toInt (iI v).toInt8
  have b := Int8.toInt_lt (iI v).toInt8
  exact ⟨by omega, by omega⟩
theorem cR_g2 {P a1 a2 a3 a4 a5 a6 a7 a8 a9 : Nat} {k k' : Nat → Nat × Nat} {h g : Nat → Int → Int} {r r' : Nat → Int → Option Nat} {n n' : Nat} {p : Int → Int} {w : Int} (c : cR P a1 a2 a3 a4 a5 a6 a7 a8 a9 k h r n p w) (w8 : cnP p w ≤ 8) (e : g P = h P) (e2 : g a2 = h a2) (e3 : g a3 = h a3) (e4 : g a4 = h a4) (e5 : g a5 = h a5) (e6 : g a6 = h a6) (e7 : g a7 = h a7) (e8 : g a8 = h a8) (e9 : g a9 = h a9) (er : r' a1 = r a1) (ek : ∀ v, v < n → k' v = k v) (ew : ∀ v : Nat, v < n → ¬ (zkF k v).1 = 16 → v < 3 ∨ v = 14 ∨ v = 25 ∨ v = 36 ∨ 86 < v → g v = h v) (nn : n ≤ n') : cR P a1 a2 a3 a4 a5 a6 a7 a8 a9 k' g r' n' p w := by
  obtain ⟨r0, r1, r2, r3, r4, r5⟩ := c
  refine ⟨by rw [e]; exact r0, fun t t0 t1 => ?_, fun t t0 t1 => ?_, by rw [e5, e6, e7]; exact r3, by rw [e7]; exact r4, by rw [e8, e9]; exact r5⟩
  · obtain ⟨v, v1, v2, v3⟩ := r1 t t0 t1
    obtain ⟨v9, c9, u1, u2, u3, u4⟩ := r2 t t0 (by omega)
    rw [v1] at u1
    cases u1
    refine ⟨v, by rw [er]; exact v1, wk_up v2 (ek v u4) ?_, by rw [e2, e3, e4]; exact v3⟩
    by_cases q : v < 3 ∨ v = 14 ∨ v = 25 ∨ v = 36 ∨ 86 < v
    · refine ew v u4 (fun z => ?_) q
      rw [u2] at z
      dsimp only at z
      rw [z] at u3
      cases u3
    · exfalso
      have hv : zkF k v = zkt9 v := zkF_t (by omega) (by omega)
      rw [hv] at u2
      have := zkt9_no (v := v) (by omega) (by omega) (by omega) (by omega) (by omega)
      rw [u2] at this
      dsimp only at this
      rcases this with q9 | q9
      · exact q9 rfl
      · rw [q9] at u3
        cases u3
  · obtain ⟨v9, c9, u1, u2, u3, u4⟩ := r2 t t0 t1
    exact ⟨v9, c9, by rw [er]; exact u1, (zkF_eq (ek v9 u4)).trans u2, u3, by omega⟩
/-- the shelves have changed -/
theorem LI_s {k k2 : Nat → Nat × Nat} {h g : Nat → Int → Int} {r r2 : Nat → Int → Option Nat} {n n2 L : Nat} (I : LI L k h r n) (nn : n ≤ n2) (ek : ∀ q, q < n → k2 q = k q) (e : ∀ q, q < 80 → g q = h q) (ew : ∀ q, 87 ≤ q → q < n → ¬ (zkF k q).1 = 16 → g q = h q) (er : ∀ q, q < n → ¬ q = 55 → ¬ q = 56 → r2 q = r q) (hS : cSh k2 g r2 n2) (hK : dKp g) : LI L k2 g r2 n2 := by
  obtain ⟨i1, ⟨i2, i3⟩, i4, i5, ⟨i6, i7⟩, ⟨i8, i9⟩, i10, i11, ⟨i12, i13⟩, i14⟩ := I
  have ew9 : ∀ v : Nat, v < n → ¬ (zkF k v).1 = 16 → v < 3 ∨ v = 14 ∨ v = 25 ∨ v = 36 ∨ 86 < v → g v = h v := fun v a b c => by
    by_cases q : v < 80
    · exact e v q
    · exact ew v (by omega) a b
  refine ⟨by omega, ⟨(ek 0 (by omega)).trans i2, by rw [e 0 (by omega)]; exact i3⟩, cS_fr i4 (ek 1 (by omega)) (ek 2 (by omega)) (e 1 (by omega)) (e 2 (by omega)), hS, ?_, by rw [e 59 (by omega)]; exact ⟨i8, i9⟩, dP_fr i10 (by rw [e 60 (by omega)]; exact i6.1) (e 69 (by omega)) (e 71 (by omega)) (e 72 (by omega)) (by rw [e 59 (by omega)]), hK, by rw [e 3 (by omega), e 59 (by omega)]; exact ⟨i12, i13⟩, ?_⟩
  · rw [e 60 (by omega)]
    exact ⟨i6, cR_g2 i7 (cn8 i6) (e 4 (by omega)) (e 6 (by omega)) (e 7 (by omega)) (e 8 (by omega)) (e 9 (by omega)) (e 10 (by omega)) (e 11 (by omega)) (e 12 (by omega)) (e 13 (by omega)) (er 5 (by omega) (by omega) (by omega)) ek ew9 nn⟩
  · rw [e 3 (by omega), e 61 (by omega)]
    intro z
    obtain ⟨j1, j2⟩ := i14 z
    exact ⟨j1, cR_g2 j2 (cn8 j1) (e 26 (by omega)) (e 28 (by omega)) (e 29 (by omega)) (e 30 (by omega)) (e 31 (by omega)) (e 32 (by omega)) (e 33 (by omega)) (e 34 (by omega)) (e 35 (by omega)) (er 27 (by omega) (by omega) (by omega)) ek ew9 nn⟩
/-- one shelf is as before -/
theorem cH1_fr {k k2 : Nat → Nat × Nat} {h g : Nat → Int → Int} {r r2 : Nat → Int → Option Nat} {n n2 : Nat} {t : Int} (c : cH1 k h r n t) (nn : n ≤ n2) (ek : ∀ a, 87 ≤ a → a < n → k2 a = k a) (ew : ∀ q, 87 ≤ q → q < n → ¬ (zkF k q).1 = 16 → g q = h q) (eb : ∀ w, r 56 t = some w → g (w + 1) = h (w + 1)) (er : ∀ a, 87 ≤ a → a < n → r2 a = r a) (e5 : r2 55 t = r 55 t) (e6 : r2 56 t = r 56 t) (f0 : g 80 t = h 80 t) (f1 : g 81 t = h 81 t) (f2 : g 82 t = h 82 t) (f3 : g 83 t = h 83 t) (f4 : g 84 t = h 84 t) (f5 : ∀ j, 0 ≤ j → j < 100 → g 85 (100 * t + j) = h 85 (100 * t + j)) : cH1 k2 g r2 n2 t := by
  have kf : ∀ a, 87 ≤ a → a < n → zkF k2 a = zkF k a := fun a h0 h1 => zkF_eq (ek a h0 h1)
  unfold cH1
  rw [e5, e6, f0, f1, f2, f3, f4]
  rcases c with z | ⟨z1, ⟨v, z2, z3, z4, z5⟩, z6⟩ | ⟨z1, z2, w, z3, ⟨y1, y2, y3, y4, y5⟩, ⟨z5, z6⟩, z7, z8, z9, z10⟩
  · exact Or.inl z
  · refine Or.inr (Or.inl ⟨z1, ⟨v, z2, wk_up z3 (ek v z4 z5) (ew v z4 z5 (fun q => ?_)), z4, by omega⟩, z6⟩)
    have c2 := (wk_c z3).2
    rw [z3.1] at q
    dsimp only at q
    rw [q] at c2
    cases c2
  · have ww : g w = h w := ew w (by omega) (by omega) (fun q => by rw [y1] at q; cases q)
    refine Or.inr (Or.inr ⟨z1, z2, w, z3, ⟨(kf w (by omega) (by omega)).trans y1, by rw [ww]; exact y2, ?_, (kf (w + 1) (by omega) (by omega)).trans y4, y5⟩, ⟨z5, by omega⟩, z7, by rw [eb w z3]; exact z8, fun j j0 j1 => ?_, fun q j j0 j1 => ?_⟩)
    · have : zrF r2 w 1 = zrF r w 1 := by
        unfold zrF
        rw [er w (by omega) (by omega)]
      exact this.trans y3
    · rw [eb w z3, f5 j j0 (by omega)]
      exact z9 j j0 j1
    · rw [f5 j j0 (by omega)]
      exact z10 q j j0 j1
theorem zv_a9 {α : Type} {f : Nat → Int → α} {n : Nat} {j b : Int} {v : α} : zv f n j v n b = if b = j then v else f n b := by
  rw [zv_eq]
  by_cases q : b = j
  · rw [if_pos ⟨rfl, q⟩, if_pos q]
  · rw [if_neg (fun z => q z.2), if_neg q]
theorem la_keep {E : zE} {L : Nat} {k : Nat → Nat × Nat} {h : Nat → Int → Int} {r : Nat → Int → Option Nat} {l : Nat → Nat → Int64} {n : Nat} (I : LI L k h r n) {a b c e9 : Int} (ya : zb a) (yb : zb b) (yc : zb c) (ye9 : zb e9) : zLP Value.int E L M_X11_keep M_X12_keep [.int (iI a), .int (iI b), .int (iI c), .int (iI e9)] k h r l n := by
  have hn := I.1
  refine ⟨_, 1, 2, ⟨by omega, by omega⟩, zct_w7 (ct_keep11 hn ya yb yc ye9) fun s z => ?_⟩
  obtain ⟨k2, h2, r2, l2, n2, rfl, ⟨n0, n1⟩, f, z⟩ := z
  have fh : ∀ q, q < n → h2 q = h q := fun q hq => (f q hq).2.1
  refine ⟨k2, h2, r2, l2, n2, rfl, ⟨(f 0 (by omega)).1.trans I.2.1.1, fh 0 (by omega)⟩, zct_w8 (ct_keep ya yb yc ye9) ?_⟩
  by_cases C : (0 ≤ a ∧ a < 8) ∧ (0 ≤ b ∧ b ≤ 1) ∧ (b = 1 → (0 ≤ c ∧ c ≤ 7) ∧ (0 ≤ e9 ∧ e9 ≤ 9))
  · simp only [if_pos C] at z ⊢
    obtain ⟨x1, x2, x3, x4⟩ := z
    have E9 : ∀ q, ¬ (80 ≤ q ∧ q ≤ 82) → zv (zv (zv h2 80 a b) 81 a c) 82 a e9 q = h2 q := fun q hq => (zv_of (by omega)).trans ((zv_of (by omega)).trans (zv_of (by omega)))
    have E0 : ∀ t, zv (zv (zv h2 80 a b) 81 a c) 82 a e9 80 t = if t = a then b else h2 80 t := fun t => by rw [zv_of (by omega), zv_of (by omega), zv_a9]
    have E1 : ∀ t, zv (zv (zv h2 80 a b) 81 a c) 82 a e9 81 t = if t = a then c else h2 81 t := fun t => by rw [zv_of (by omega), zv_a9, zv_of (by omega)]
    have E2 : ∀ t, zv (zv (zv h2 80 a b) 81 a c) 82 a e9 82 t = if t = a then e9 else h2 82 t := fun t => by rw [zv_a9, zv_of (by omega), zv_of (by omega)]
    refine ⟨k2, _, r2, l2, n2, rfl, ⟨(f 0 (by omega)).1.trans I.2.1.1, (E9 0 (by omega)).trans (fh 0 (by omega))⟩, LI_s I n0 (fun q hq => (f q hq).1) (fun q hq => (E9 q (by omega)).trans (fh q (by omega))) (fun q q0 q1 _ => (E9 q (by omega)).trans (fh q q1)) (fun q hq => (f q hq).2.2.2) ⟨fun t t0 t1 => ?_, fun t u w t0 t1 u0 u1 a1 a2 => ?_⟩ ⟨fun j => ?_, ?_, ?_, ?_⟩⟩
    · by_cases q : t = a
      · subst q
        by_cases b1 : b = 1
        · obtain ⟨v, v1, v2, v3, v4⟩ := x4 b1
          refine Or.inr (Or.inl ⟨by rw [E0, if_pos rfl]; exact b1, ⟨v, v1, ?_, v3, v4⟩, by rw [x1, if_pos rfl]⟩)
          rw [E1, E2, if_pos rfl, if_pos rfl]
          exact wk_up v2 rfl (E9 v (by omega))
        · exact Or.inl ⟨by rw [E0, if_pos rfl]; omega, x3 b1, by rw [x1, if_pos rfl]⟩
      · exact cH1_fr (I.2.2.2.1.1 t t0 t1) n0 (fun a a0 a1 => (f a a1).1) (fun q q0 q1 _ => (E9 q (by omega)).trans (fh q q1)) (fun w hw => (E9 _ (by have := cSh_2 I.2.2.2.1 t0 t1 hw; omega)).trans (fh _ (by have := cSh_2 I.2.2.2.1 t0 t1 hw; omega))) (fun a a0 a1 => (f a a1).2.2.2 (by omega) (by omega)) (x2 t q) (by rw [x1, if_neg q]) (by rw [E0, if_neg q, fh 80 (by omega)]) (by rw [E1, if_neg q, fh 81 (by omega)]) (by rw [E2, if_neg q, fh 82 (by omega)]) (by rw [E9 83 (by omega), fh 83 (by omega)]) (by rw [E9 84 (by omega), fh 84 (by omega)]) (fun j _ _ => by rw [E9 85 (by omega), fh 85 (by omega)])
    · rw [x1] at a1 a2
      by_cases q : t = a
      · rw [if_pos q] at a1; cases a1
      · by_cases q2 : u = a
        · rw [if_pos q2] at a2; cases a2
        · rw [if_neg q] at a1
          rw [if_neg q2] at a2
          exact I.2.2.2.1.2 t u w t0 t1 u0 u1 a1 a2
    · rw [E0]
      split
      · exact yb
      · rw [fh 80 (by omega)]; exact I.2.2.2.2.2.2.2.1.1 j
    · rw [E9 83 (by omega), fh 83 (by omega)]; exact I.2.2.2.2.2.2.2.1.2.1
    · rw [E9 84 (by omega), fh 84 (by omega)]; exact I.2.2.2.2.2.2.2.1.2.2.1
    · rw [E9 85 (by omega), fh 85 (by omega)]; exact I.2.2.2.2.2.2.2.1.2.2.2
  · simp only [if_neg C] at z ⊢
    subst z
    refine ⟨k2, h2, r2, l2, n2, rfl, ⟨(f 0 (by omega)).1.trans I.2.1.1, fh 0 (by omega)⟩, LI_c I n0 (fun q hq => ⟨(f q hq).1, fun _ => fh q hq, fun _ => rfl⟩)⟩
theorem la_row {E : zE} {L : Nat} {k : Nat → Nat × Nat} {h : Nat → Int → Int} {r : Nat → Int → Option Nat} {l : Nat → Nat → Int64} {n : Nat} (I : LI L k h r n) {a b c : Int} (ya : zb a) (yb : zb b) (yc : zb c) : zLP Value.int E L M_X11_row M_X12_row [.int (iI a), .int (iI b), .int (iI c)] k h r l n := by
  have hn := I.1
  refine ⟨_, 2, 102, ⟨by omega, by omega⟩, zct_w7 (ct_row11 hn ya yb yc) fun s z => ?_⟩
  obtain ⟨k2, h2, r2, l2, n2, rfl, ⟨n0, n1⟩, f, z⟩ := z
  have fh : ∀ q, q < n → h2 q = h q := fun q hq => (f q hq).2.1
  refine ⟨k2, h2, r2, l2, n2, rfl, ⟨(f 0 (by omega)).1.trans I.2.1.1, fh 0 (by omega)⟩, zct_w8 (ct_row ya yb yc) ?_⟩
  by_cases C : ((0 ≤ a ∧ a < 8) ∧ (0 ≤ b ∧ b ≤ 2) ∧ c ≤ 100) ∧ 0 ≤ c
  · simp only [if_pos C] at z ⊢
    obtain ⟨x1, x2, x3, x4, x5, x6⟩ := z
    have E9 : ∀ q, ¬ (80 ≤ q ∧ q ≤ 85) → sRow h2 a b c q = h2 q := fun q hq => funext fun j => (if_neg (fun z => by omega)).trans (congrFun ((zv_of (by omega)).trans ((zv_of (by omega)).trans (zv_of (by omega)))) j)
    have U : ∀ (q : Nat) (t : Int), ¬ q = 85 → sRow h2 a b c q t = zv (zv (zv h2 80 a 2) 83 a b) 84 a c q t := fun q t hq => if_neg (fun z => hq z.1)
    have E0 : ∀ t, sRow h2 a b c 80 t = if t = a then 2 else h2 80 t := fun t => by rw [U 80 t (by omega), zv_of (by omega), zv_of (by omega), zv_a9]
    have E1 : ∀ t, sRow h2 a b c 81 t = h2 81 t := fun t => by rw [U 81 t (by omega), zv_of (by omega), zv_of (by omega), zv_of (by omega)]
    have E2 : ∀ t, sRow h2 a b c 82 t = h2 82 t := fun t => by rw [U 82 t (by omega), zv_of (by omega), zv_of (by omega), zv_of (by omega)]
    have E3 : ∀ t, sRow h2 a b c 83 t = if t = a then b else h2 83 t := fun t => by rw [U 83 t (by omega), zv_of (by omega), zv_a9, zv_of (by omega)]
    have E4 : ∀ t, sRow h2 a b c 84 t = if t = a then c else h2 84 t := fun t => by rw [U 84 t (by omega), zv_a9, zv_of (by omega), zv_of (by omega)]
    have E5 : ∀ t, sRow h2 a b c 85 t = if 100 * a ≤ t ∧ t < 100 * a + 100 then 0 else h2 85 t := fun t => by
      have e : zv (zv (zv h2 80 a 2) 83 a b) 84 a c 85 = h2 85 := (zv_of (by omega)).trans ((zv_of (by omega)).trans (zv_of (by omega)))
      show (if 85 = 85 ∧ 100 * a ≤ t ∧ t < 100 * a + 100 then (0 : Int) else zv (zv (zv h2 80 a 2) 83 a b) 84 a c 85 t) = _
      rw [e]
      by_cases q : 100 * a ≤ t ∧ t < 100 * a + 100
      · rw [if_pos ⟨rfl, q⟩, if_pos q]
      · rw [if_neg (fun z => q z.2), if_neg q]
    refine ⟨k2, _, r2, l2, n2, rfl, ⟨(f 0 (by omega)).1.trans I.2.1.1, (E9 0 (by omega)).trans (fh 0 (by omega))⟩, LI_s I n0 (fun q hq => (f q hq).1) (fun q hq => (E9 q (by omega)).trans (fh q (by omega))) (fun q q0 q1 _ => (E9 q (by omega)).trans (fh q q1)) (fun q hq => (f q hq).2.2.2) ⟨fun t t0 t1 => ?_, fun t u w t0 t1 u0 u1 a1 a2 => ?_⟩ ⟨fun j => ?_, fun j => ?_, fun j => ?_, fun j => ?_⟩⟩
    · by_cases q : t = a
      · subst q
        refine Or.inr (Or.inr ⟨by rw [E0, if_pos rfl], by rw [x1, if_pos rfl], n, x3, ?_, ⟨by omega, by omega⟩, by rw [E4, if_pos rfl]; omega, fun j => ?_, fun j j0 j1 => ?_, fun _ j j0 j1 => ?_⟩)
        · rw [E4, E3, if_pos rfl, if_pos rfl]
          exact rw_fr x5 (E9 n (by omega)) rfl
        · rw [E9 (n + 1) (by omega), x6 j]; exact ⟨by decide, by decide⟩
        · rw [E4, if_pos rfl] at j1
          rw [E9 (n + 1) (by omega), x6 j, E5, if_pos (by omega)]
        · rw [E4, if_pos rfl] at j1
          rw [E5, if_pos (by omega)]
          exact ⟨by decide, by decide⟩
      · exact cH1_fr (I.2.2.2.1.1 t t0 t1) n0 (fun a a0 a1 => (f a a1).1) (fun q q0 q1 _ => (E9 q (by omega)).trans (fh q q1)) (fun w hw => (E9 _ (by have := cSh_2 I.2.2.2.1 t0 t1 hw; omega)).trans (fh _ (by have := cSh_2 I.2.2.2.1 t0 t1 hw; omega))) (fun a a0 a1 => (f a a1).2.2.2 (by omega) (by omega)) (by rw [x1, if_neg q]) (x2 t q) (by rw [E0, if_neg q, fh 80 (by omega)]) (by rw [E1, fh 81 (by omega)]) (by rw [E2, fh 82 (by omega)]) (by rw [E3, if_neg q, fh 83 (by omega)]) (by rw [E4, if_neg q, fh 84 (by omega)]) (fun j j0 j1 => by rw [E5, if_neg (by omega), fh 85 (by omega)])
    · by_cases q : t = a
      · by_cases q2 : u = a
        · omega
        · rw [q, x3] at a1
          cases a1
          rw [x2 u q2] at a2
          have := cSh_2 I.2.2.2.1 u0 u1 a2
          omega
      · by_cases q2 : u = a
        · rw [q2, x3] at a2
          cases a2
          rw [x2 t q] at a1
          have := cSh_2 I.2.2.2.1 t0 t1 a1
          omega
        · rw [x2 t q] at a1
          rw [x2 u q2] at a2
          exact I.2.2.2.1.2 t u w t0 t1 u0 u1 a1 a2
    · rw [E0]
      split
      · exact ⟨by decide, by decide⟩
      · rw [fh 80 (by omega)]; exact I.2.2.2.2.2.2.2.1.1 j
    · rw [E3]
      split
      · exact yb
      · rw [fh 83 (by omega)]; exact I.2.2.2.2.2.2.2.1.2.1 j
    · rw [E4]
      split
      · exact ⟨C.2, C.1.2.2⟩
      · rw [fh 84 (by omega)]; exact I.2.2.2.2.2.2.2.1.2.2.1 j
    · rw [E5]
      split
      · exact ⟨by decide, by decide⟩
      · rw [fh 85 (by omega)]; exact I.2.2.2.2.2.2.2.1.2.2.2 j
  · simp only [if_neg C] at z ⊢
    subst z
    refine ⟨k2, h2, r2, l2, n2, rfl, ⟨(f 0 (by omega)).1.trans I.2.1.1, fh 0 (by omega)⟩, LI_c I n0 (fun q hq => ⟨(f q hq).1, fun _ => fh q hq, fun _ => rfl⟩)⟩
