/-! the law: put, copy, the image, one train more, toss -/
theorem zk16 {k : Nat → Nat × Nat} {x c L : Nat} (e : zkF k x = (c, L)) (hc : ¬ c = 16) : ¬ (zkF k x).1 = 16 := fun z => by rw [e] at z; exact hc z
theorem la_put {E : zE} {L : Nat} {k : Nat → Nat × Nat} {h : Nat → Int → Int} {r : Nat → Int → Option Nat} {l : Nat → Nat → Int64} {n : Nat} (I : LI L k h r n) {a b c : Int} (ya : zb a) (yb : zb b) (yc : zb c) : zLP Value.int E L M_X11_put M_X12_put [.int (iI a), .int (iI b), .int (iI c)] k h r l n := by
  have hn := I.1
  refine ⟨_, 0, 0, ⟨by omega, by omega⟩, zct_w8 (ct_put11 I.2.2.2.1 ya yb yc) ?_⟩
  by_cases C : sWR h a (-1) = 0 ∧ 0 ≤ b ∧ b < h 84 a
  · simp only [if_pos C]
    obtain ⟨⟨t0, t1⟩, h80, r5, w, r6, hw, ⟨w0, w1⟩, ⟨s0, s1⟩, hz, he, hrg⟩ := cSh_w I.2.2.2.1 C.1
    rw [cw_is r6]
    have F9 : ∀ q, ¬ q = w + 1 → zv h (w + 1) b (nwV (h 83 a) c) q = h q := fun q hq => zv_of hq
    refine ⟨k, _, r, l, n, rfl, ⟨I.2.1.1, F9 0 (by omega)⟩, ?_⟩
    have z : zCT E 10 _ _ _ 0 0 _ := ct_put (E := E) (k := k) (h := zv h (w + 1) b (nwV (h 83 a) c)) (r := r) (l := l) (n := n) (dKp_fr I.2.2.2.2.2.2.2.1 (F9 80 (by omega)) (F9 83 (by omega)) (F9 84 (by omega)) (F9 85 (by omega))) ya yb yc
    rw [sWR_cg (F9 80 (by omega)) (F9 83 (by omega)), F9 84 (by omega), F9 83 (by omega)] at z
    refine zct_w8 z ?_
    simp only [if_pos C]
    have E9 : ∀ q, ¬ q = w + 1 → ¬ q = 85 → zv (zv h (w + 1) b (nwV (h 83 a) c)) 85 (100 * a + b) (nwV (h 83 a) c) q = h q := fun q h1 h2 => (zv_of h2).trans (zv_of h1)
    have E5 : ∀ j, zv (zv h (w + 1) b (nwV (h 83 a) c)) 85 (100 * a + b) (nwV (h 83 a) c) 85 j = if j = 100 * a + b then nwV (h 83 a) c else h 85 j := fun j => by rw [zv_a9, F9 85 (by omega)]
    have EW : ∀ j, zv (zv h (w + 1) b (nwV (h 83 a) c)) 85 (100 * a + b) (nwV (h 83 a) c) (w + 1) j = if j = b then nwV (h 83 a) c else h (w + 1) j := fun j => by rw [zv_of (by omega), zv_a9]
    have kw : ∀ q, ¬ (zkF k q).1 = 16 → ¬ q = w + 1 := fun q h1 h2 => by
      rw [h2, hw.2.2.2.1] at h1
      exact h1 rfl
    refine ⟨k, _, r, l, n, rfl, ⟨I.2.1.1, E9 0 (by omega) (by omega)⟩, LI_s I (Nat.le_refl _) (fun _ _ => rfl) (fun q hq => E9 q (by omega) (by omega)) (fun q q0 q1 q2 => E9 q (kw q q2) (by omega)) (fun _ _ _ _ => rfl) ⟨fun t u0 u1 => ?_, I.2.2.2.1.2⟩ ⟨?_, ?_, ?_, fun j => ?_⟩⟩
    · by_cases q : t = a
      · subst q
        refine Or.inr (Or.inr ⟨by rw [E9 80 (by omega) (by omega)]; exact h80, r5, w, r6, ?_, ⟨w0, w1⟩, by rw [E9 84 (by omega) (by omega)]; exact ⟨s0, s1⟩, fun j => ?_, fun j j0 j1 => ?_, fun e83 j j0 j1 => ?_⟩)
        · rw [E9 84 (by omega) (by omega), E9 83 (by omega) (by omega)]
          exact rw_fr hw (E9 w (by omega) (by omega)) rfl
        · rw [EW]
          split
          · exact nwV_z yc
          · exact hz j
        · rw [E9 84 (by omega) (by omega)] at j1
          rw [EW, E5]
          by_cases q : j = b
          · rw [if_pos q, if_pos (by omega)]
          · rw [if_neg q, if_neg (by omega)]
            exact he j j0 j1
        · rw [E9 83 (by omega) (by omega)] at e83
          rw [E9 84 (by omega) (by omega)] at j1
          rw [E5, e83]
          split
          · exact nwV_b
          · exact hrg e83 j j0 j1
      · exact cH1_fr (I.2.2.2.1.1 t u0 u1) (Nat.le_refl _) (fun _ _ _ => rfl) (fun q q0 q1 q2 => E9 q (kw q q2) (by omega)) (fun w2 hw2 => E9 _ (fun z => q (I.2.2.2.1.2 t a w u0 u1 t0 t1 (by rw [hw2]; congr 1; omega) r6)) (by have := cSh_2 I.2.2.2.1 u0 u1 hw2; omega)) (fun _ _ _ => rfl) rfl rfl (by rw [E9 80 (by omega) (by omega)]) (by rw [E9 81 (by omega) (by omega)]) (by rw [E9 82 (by omega) (by omega)]) (by rw [E9 83 (by omega) (by omega)]) (by rw [E9 84 (by omega) (by omega)]) (fun j j0 j1 => by rw [E5, if_neg (by omega)])
    · rw [E9 80 (by omega) (by omega)]; exact I.2.2.2.2.2.2.2.1.1
    · rw [E9 83 (by omega) (by omega)]; exact I.2.2.2.2.2.2.2.1.2.1
    · rw [E9 84 (by omega) (by omega)]; exact I.2.2.2.2.2.2.2.1.2.2.1
    · rw [E5]
      split
      · exact nwV_z yc
      · exact I.2.2.2.2.2.2.2.1.2.2.2 j
  · simp only [if_neg C]
    refine ⟨k, h, r, l, n, rfl, ⟨I.2.1.1, rfl⟩, zct_w8 (ct_put I.2.2.2.2.2.2.2.1 ya yb yc) ?_⟩
    simp only [if_neg C]
    exact ⟨k, h, r, l, n, rfl, ⟨I.2.1.1, rfl⟩, I⟩
theorem la_copy {E : zE} {L : Nat} {k : Nat → Nat × Nat} {h : Nat → Int → Int} {r : Nat → Int → Option Nat} {l : Nat → Nat → Int64} {n : Nat} (I : LI L k h r n) {a b c e9 f9 : Int} (ya : zb a) (yb : zb b) (yc : zb c) (ye9 : zb e9) (yf9 : zb f9) : zLP Value.int E L M_X11_copy M_X12_copy [.int (iI a), .int (iI b), .int (iI c), .int (iI e9), .int (iI f9)] k h r l n := by
  have hn := I.1
  refine ⟨_, 0, 0, ⟨by omega, by omega⟩, zct_w8 (ct_copy11 I.2.2.2.1 ya yb yc ye9 yf9) ?_⟩
  by_cases C : ((0 ≤ a ∧ a < 8) ∧ (0 ≤ c ∧ c < 8)) ∧ (h 80 a = 2 ∧ h 80 c = 2 ∧ h 83 a = h 83 c) ∧ ¬ (f9 < 0 ∨ b < 0 ∨ e9 < 0 ∨ h 84 a - b < f9 ∨ h 84 c - e9 < f9)
  · simp only [if_pos C]
    obtain ⟨⟨⟨a0, a1⟩, c0, c1⟩, ⟨ha2, hc2, h83⟩, rng⟩ := id C
    have wr : ∀ t, 0 ≤ t → t < 8 → h 80 t = 2 → sWR h t (-1) = 0 := fun t t0 t1 h2 => by
      unfold sWR
      rw [if_neg (fun q => q ⟨t0, t1⟩), if_neg (by omega), if_neg (fun q => q h2), if_neg (by omega)]
    obtain ⟨-, -, -, x, x6, xw, ⟨x0, x1⟩, ⟨xs0, xs1⟩, xz, xe, xr⟩ := cSh_w I.2.2.2.1 (wr a a0 a1 ha2)
    obtain ⟨-, -, r5, w, r6, hw, ⟨w0, w1⟩, ⟨s0, s1⟩, hz, he, hrg⟩ := cSh_w I.2.2.2.1 (wr c c0 c1 hc2)
    rw [cw_is r6, cw_is x6]
    have F9 : ∀ q, ¬ q = w + 1 → zcp h (x + 1) (w + 1) b e9 f9 q = h q := fun q hq => funext fun j => if_neg (fun z => hq z.1)
    refine ⟨k, _, r, l, n, rfl, ⟨I.2.1.1, F9 0 (by omega)⟩, ?_⟩
    have z : zCT E 10 _ _ _ 0 0 _ := ct_copy (E := E) (k := k) (h := zcp h (x + 1) (w + 1) b e9 f9) (r := r) (l := l) (n := n) (dKp_fr I.2.2.2.2.2.2.2.1 (F9 80 (by omega)) (F9 83 (by omega)) (F9 84 (by omega)) (F9 85 (by omega))) ya yb yc ye9 yf9
    rw [F9 80 (by omega), F9 83 (by omega), F9 84 (by omega)] at z
    refine zct_w8 z ?_
    simp only [if_pos C]
    have E9 : ∀ q, ¬ q = w + 1 → ¬ q = 85 → sCr (zcp h (x + 1) (w + 1) b e9 f9) (100 * a + b) (100 * c + e9) (100 * c + e9) (100 * c + e9 + f9) q = h q := fun q h1 h2 => funext fun j => (if_neg (fun z => h2 z.1)).trans (congrFun (F9 q h1) j)
    have E5 : ∀ j, sCr (zcp h (x + 1) (w + 1) b e9 f9) (100 * a + b) (100 * c + e9) (100 * c + e9) (100 * c + e9 + f9) 85 j = if 100 * c + e9 ≤ j ∧ j < 100 * c + e9 + f9 then h 85 (j - (100 * c + e9) + (100 * a + b)) else h 85 j := fun j => by
      show (if 85 = 85 ∧ 100 * c + e9 ≤ j ∧ j < 100 * c + e9 + f9 then zcp h (x + 1) (w + 1) b e9 f9 85 (j - (100 * c + e9) + (100 * a + b)) else zcp h (x + 1) (w + 1) b e9 f9 85 j) = _
      rw [F9 85 (by omega)]
      by_cases q : 100 * c + e9 ≤ j ∧ j < 100 * c + e9 + f9
      · rw [if_pos ⟨rfl, q⟩, if_pos q]
      · rw [if_neg (fun z => q z.2), if_neg q]
    have EW : ∀ j, sCr (zcp h (x + 1) (w + 1) b e9 f9) (100 * a + b) (100 * c + e9) (100 * c + e9) (100 * c + e9 + f9) (w + 1) j = if e9 ≤ j ∧ j < e9 + f9 then h (x + 1) (j - e9 + b) else h (w + 1) j := fun j => by
      refine (if_neg (fun z => by omega)).trans ?_
      show (if w + 1 = w + 1 ∧ e9 ≤ j ∧ j < e9 + f9 then h (x + 1) (j - e9 + b) else h (w + 1) j) = _
      by_cases q : e9 ≤ j ∧ j < e9 + f9
      · rw [if_pos ⟨rfl, q⟩, if_pos q]
      · rw [if_neg (fun z => q z.2), if_neg q]
    have kw : ∀ q, ¬ (zkF k q).1 = 16 → ¬ q = w + 1 := fun q h1 h2 => by
      rw [h2, hw.2.2.2.1] at h1
      exact h1 rfl
    refine ⟨k, _, r, l, n, rfl, ⟨I.2.1.1, E9 0 (by omega) (by omega)⟩, LI_s I (Nat.le_refl _) (fun _ _ => rfl) (fun q hq => E9 q (by omega) (by omega)) (fun q q0 q1 q2 => E9 q (kw q q2) (by omega)) (fun _ _ _ _ => rfl) ⟨fun t u0 u1 => ?_, I.2.2.2.1.2⟩ ⟨?_, ?_, ?_, fun j => ?_⟩⟩
    · by_cases q : t = c
      · subst q
        refine Or.inr (Or.inr ⟨by rw [E9 80 (by omega) (by omega)]; exact hc2, r5, w, r6, ?_, ⟨w0, w1⟩, by rw [E9 84 (by omega) (by omega)]; exact ⟨s0, s1⟩, fun j => ?_, fun j j0 j1 => ?_, fun e83 j j0 j1 => ?_⟩)
        · rw [E9 84 (by omega) (by omega), E9 83 (by omega) (by omega)]
          exact rw_fr hw (E9 w (by omega) (by omega)) rfl
        · rw [EW]
          split
          · exact xz _
          · exact hz j
        · rw [E9 84 (by omega) (by omega)] at j1
          rw [EW, E5]
          by_cases q : e9 ≤ j ∧ j < e9 + f9
          · rw [if_pos q, if_pos (by omega), xe _ (by omega) (by omega)]
            congr 1
            omega
          · rw [if_neg q, if_neg (by omega)]
            exact he j j0 j1
        · rw [E9 83 (by omega) (by omega)] at e83
          rw [E9 84 (by omega) (by omega)] at j1
          rw [E5]
          by_cases q : 100 * t + e9 ≤ 100 * t + j ∧ 100 * t + j < 100 * t + e9 + f9
          · rw [if_pos q, show 100 * t + j - (100 * t + e9) + (100 * a + b) = 100 * a + (j - e9 + b) by omega]
            exact xr (h83.trans e83) _ (by omega) (by omega)
          · rw [if_neg q]
            exact hrg e83 j j0 j1
      · exact cH1_fr (I.2.2.2.1.1 t u0 u1) (Nat.le_refl _) (fun _ _ _ => rfl) (fun q q0 q1 q2 => E9 q (kw q q2) (by omega)) (fun w2 hw2 => E9 _ (fun z => q (I.2.2.2.1.2 t c w u0 u1 c0 c1 (by rw [hw2]; congr 1; omega) r6)) (by have := cSh_2 I.2.2.2.1 u0 u1 hw2; omega)) (fun _ _ _ => rfl) rfl rfl (by rw [E9 80 (by omega) (by omega)]) (by rw [E9 81 (by omega) (by omega)]) (by rw [E9 82 (by omega) (by omega)]) (by rw [E9 83 (by omega) (by omega)]) (by rw [E9 84 (by omega) (by omega)]) (fun j j0 j1 => by rw [E5, if_neg (by omega)])
    · rw [E9 80 (by omega) (by omega)]; exact I.2.2.2.2.2.2.2.1.1
    · rw [E9 83 (by omega) (by omega)]; exact I.2.2.2.2.2.2.2.1.2.1
    · rw [E9 84 (by omega) (by omega)]; exact I.2.2.2.2.2.2.2.1.2.2.1
    · rw [E5]
      split
      · exact I.2.2.2.2.2.2.2.1.2.2.2 _
      · exact I.2.2.2.2.2.2.2.1.2.2.2 j
  · simp only [if_neg C]
    refine ⟨k, h, r, l, n, rfl, ⟨I.2.1.1, rfl⟩, zct_w8 (ct_copy I.2.2.2.2.2.2.2.1 ya yb yc ye9 yf9) ?_⟩
    simp only [if_neg C]
    exact ⟨k, h, r, l, n, rfl, ⟨I.2.1.1, rfl⟩, I⟩
theorem la_image {E : zE} {L : Nat} {k : Nat → Nat × Nat} {h : Nat → Int → Int} {r : Nat → Int → Option Nat} {l : Nat → Nat → Int64} {n : Nat} (I : LI L k h r n) : zLP Value.int E L M_X11_image M_X12_image [] k h r l n := by
  have hn := I.1
  obtain ⟨i1, ⟨i2, i3⟩, i4, i5, ⟨i6, i7⟩, ⟨i8, i9⟩, i10, i11, ⟨i12, i13⟩, i14⟩ := id I
  refine ⟨_, 0, 0, ⟨by omega, by omega⟩, zct_w7 (ct_image11 i6 i7) fun s z => ?_⟩
  obtain ⟨g, r9, rfl, z1, z2, z3, z4, z5⟩ := z
  have e60 : g 60 = h 60 := z1 60 (by omega) (by omega)
  have z : zCT E 10 _ _ _ 0 0 _ := ct_image (E := E) (k := k) (h := g) (r := r9) (l := l) (n := n)
  rw [e60] at z
  refine ⟨k, g, r9, l, n, rfl, ⟨i2, z1 0 (by omega) (by omega)⟩, zct_w8 z ?_⟩
  have E9 : ∀ q, ¬ q = 59 → ¬ q = 61 → zv (zly 60 61 59 g) 59 3 1 q = g q := fun q h1 h2 => (zv_of h1).trans (funext fun j => if_neg (fun z => h2 z.1))
  have E8 : ∀ q, q < 26 ∨ 35 < q → ¬ q = 3 → ¬ q = 59 → ¬ q = 61 → zv (zly 60 61 59 g) 59 3 1 q = h q := fun q h1 h2 h3 h4 => (E9 q h3 h4).trans (z1 q h1 h2)
  have E59 : ∀ j, zv (zly 60 61 59 g) 59 3 1 59 j = if j = 3 then 1 else h 59 j := fun j => by
    rw [zv_a9, ← z1 59 (by omega) (by omega)]
    by_cases q : j = 3
    · rw [if_pos q, if_pos q]
    · rw [if_neg q, if_neg q]
      exact if_neg (fun z => by omega)
  have E61 : ∀ j, 0 ≤ j → j < 59 → zv (zly 60 61 59 g) 59 3 1 61 j = h 60 j := fun j j0 j1 => by
    rw [zv_of (by omega), ← e60]
    exact if_pos ⟨rfl, j0, j1⟩
  have E3 : zv (zly 60 61 59 g) 59 3 1 3 3 = 1 := by rw [E9 3 (by omega) (by omega)]; exact z3
  refine ⟨k, _, r9, l, n, rfl, ⟨i2, E8 0 (by omega) (by omega) (by omega) (by omega)⟩, i1, ⟨i2, by rw [E8 0 (by omega) (by omega) (by omega) (by omega)]; exact i3⟩, cS_fr i4 rfl rfl (E8 1 (by omega) (by omega) (by omega) (by omega)) (E8 2 (by omega) (by omega) (by omega) (by omega)), ?_, ?_, ?_, ?_, ?_, ?_, ?_⟩
  · exact cSh_fr i5 (fun _ _ _ => rfl) (fun a _ _ => E8 a (by omega) (by omega) (by omega) (by omega)) (fun a _ _ => z4 a (by omega)) (z4 55 (by omega)) (z4 56 (by omega)) (Nat.le_refl _) (fun a _ _ => E8 a (by omega) (by omega) (by omega) (by omega))
  · rw [E8 60 (by omega) (by omega) (by omega) (by omega)]
    refine ⟨i6, cR_gen i7 (cn8 i6) ?_ ?_ ?_ ?_ ?_ ?_ ?_ ?_ ?_ (z4 5 (by omega)) (fun _ _ => rfl) (fun v _ z9 => ?_) (Nat.le_refl _)⟩
    iterate 9 exact E8 _ (by omega) (by omega) (by omega) (by omega)
    by_cases q : v = 3
    · omega
    · exact E8 v (by omega) (by omega) (by omega) (by omega)
  · rw [E59, E59, if_neg (by omega), if_neg (by omega)]
    exact ⟨i8, i9⟩
  · exact dP_fr i10 (by rw [E8 60 (by omega) (by omega) (by omega) (by omega)]; exact i6.1) (E8 69 (by omega) (by omega) (by omega) (by omega)) (E8 71 (by omega) (by omega) (by omega) (by omega)) (E8 72 (by omega) (by omega) (by omega) (by omega)) (by rw [E59, if_neg (by omega)])
  · exact dKp_fr i11 (E8 80 (by omega) (by omega) (by omega) (by omega)) (E8 83 (by omega) (by omega) (by omega) (by omega)) (E8 84 (by omega) (by omega) (by omega) (by omega)) (E8 85 (by omega) (by omega) (by omega) (by omega))
  · rw [E3, E59, if_pos rfl]
    exact ⟨rfl, Or.inr rfl⟩
  · intro _
    refine ⟨pS_ext E61 i6, cR_ext (cR_gen z5 (cn8 i6) ?_ ?_ ?_ ?_ ?_ ?_ ?_ ?_ ?_ rfl (fun _ _ => rfl) (fun v _ z9 => E9 v (by omega) (by omega)) (Nat.le_refl _)) i6 E61⟩
    iterate 9 exact E9 _ (by omega) (by omega)
theorem LI_xt {L : Nat} {k : Nat → Nat × Nat} {h : Nat → Int → Int} {r : Nat → Int → Option Nat} {n : Nat} (I : LI L k h r n) : LI L k (sXt h) r n := by
  unfold sXt
  split
  · exact I
  · have p0 := I.2.2.2.2.1.1.1.1
    have p1 := I.2.2.2.2.1.1.1.2.1
    have E9 : ∀ q, ¬ q = 60 → zv (zv h 60 (11 + 2 * h 60 0) 0) 60 (11 + 2 * h 60 0 + 1) 9 q = h q := fun q hq => (zv_of hq).trans (zv_of hq)
    have E6 : zv (zv h 60 (11 + 2 * h 60 0) 0) 60 (11 + 2 * h 60 0 + 1) 9 60 = zp (zp (h 60) (11 + 2 * h 60 0) 0) (11 + 2 * h 60 0 + 1) 9 := funext fun j => zv_60 (funext fun j => zv_60 rfl)
    refine LI_p I (Nat.le_refl _) (fun q hq => ⟨rfl, fun z => E9 q (by omega), fun _ _ => rfl⟩) (by rw [E9 59 (by omega)]; exact ⟨rfl, rfl, rfl⟩) (by rw [E6]; exact pS_put (pS_put I.2.2.2.2.1.1 (by omega)) (by omega)) ?_
    rw [E6]
    have c := cR_off (cR_off I.2.2.2.2.1.2 p0 (i := 11 + 2 * h 60 0) (v := 0) (by omega) (by omega)) (by rw [zp_ne (by omega)]; exact p0) (i := 11 + 2 * h 60 0 + 1) (v := 9) (by rw [zp_ne (by omega)]; omega) (by omega)
    refine cR_gen c (by rw [cnP_zp (by omega), cnP_zp (by omega)]; exact cn8 I.2.2.2.2.1.1) ?_ ?_ ?_ ?_ ?_ ?_ ?_ ?_ ?_ rfl (fun _ _ => rfl) (fun v _ z9 => E9 v (by omega)) (Nat.le_refl _)
    iterate 9 exact E9 _ (by omega)
theorem la_extra {E : zE} {L : Nat} {k : Nat → Nat × Nat} {h : Nat → Int → Int} {r : Nat → Int → Option Nat} {l : Nat → Nat → Int64} {n : Nat} (I : LI L k h r n) : zLP Value.int E L M_X11_extra M_X12_extra [] k h r l n := by
  refine ⟨_, 0, 0, ⟨by omega, by omega⟩, zct_w7 (fc_T (ct_extra11 I.2.2.2.2.1.1 I.2.2.2.2.1.2)) fun s z => ?_⟩
  obtain ⟨g, r9, rfl, z2, z3⟩ := z
  have I2 : LI L k g r9 n := LI_c I (Nat.le_refl _) (fun q hq => ⟨rfl, z2 q, z3 q⟩)
  refine ⟨k, g, r9, l, n, rfl, ⟨I.2.1.1, z2 0 (by omega)⟩, zct_w7 (ct_extra (z2 60 (by omega)) I2.2.2.2.2.2.1.1 I2.2.2.2.2.2.1.2 I2.2.2.2.2.2.2.1 ⟨by decide, by decide⟩) fun s y => ?_⟩
  obtain ⟨g2, rfl, y2⟩ := y
  have e0 : sXt g 0 = g 0 := by
    unfold sXt
    split
    · rfl
    · exact (zv_of (by omega)).trans (zv_of (by omega))
  exact ⟨k, g2, r9, l, n, rfl, ⟨I.2.1.1, (y2.1 0 (by omega) (by omega)).trans (e0.trans (z2 0 (by omega)))⟩, LI_dE (LI_xt I2) y2⟩
theorem zcx_w9 {E : zE} {d : Nat} {M : zM} {vs : List Value} {σ : zS} {mc ms : Nat} {Q Q2 : zQ} (h : zCX E d M vs σ mc ms Q) (a : ∀ r s, Q r s → Q2 r s) : zCX E d M vs σ mc ms Q2 := by
  have e1 : ∀ a9 s o t, zQc E Q a9 s o t → zQc E Q2 a9 s o t := fun a9 s o t ⟨r, s9, z1, z2, z3⟩ => ⟨r, s9, z1, a _ _ z2, z3⟩
  intro p e A1 A2 A3 s m args below A4 A5 A6 A7
  obtain ⟨n9, o9, z1, z2, z3, z4, z5⟩ := h p e A1 A2 A3 s m args below A4 A5 A6 A7
  exact ⟨n9, o9, z1, z2, z3, e1 _ _ _ _ z4, z5⟩
theorem la_toss {E : zE} {L : Nat} {k : Nat → Nat × Nat} {h : Nat → Int → Int} {r : Nat → Int → Option Nat} {l : Nat → Nat → Int64} {n : Nat} (I : LI L k h r n) {a : Int} (ya : zb a) : ∃ x : Int32, zCX E 10 M_X11_toss [.ref 3, .int (iI a)] (zJ (k, h, r, l, n)) 1 6 (zVx (.int x) (zA L (h 0) (fun k2 g r2 l2 n2 => zCT E 10 M_X12_toss [.ref 59, .int (iI a)] (zJ (k2, g, r2, l2, n2)) 0 0 (zVx (.int x) (zA L (h 0) (fun k3 g3 r3 _ n3 => LI L k3 g3 r3 n3)))))) := by
  have hn := I.1
  refine ⟨_, zcx_w9 (Q2 := zVx _ _) (cx_toss11 hn I.2.2.2.1 ya) fun _ s z => ⟨z.1, ?_⟩⟩
  obtain ⟨-, k2, g, r2, l2, n2, rfl, ⟨n0, n1⟩, f⟩ := z
  have I2 : LI L k2 g r2 n2 := LI_c I n0 (fun q hq => ⟨(f q hq).1, fun _ => (f q hq).2.1, fun _ => (f q hq).2.2.2⟩)
  have e : ∀ q, q < n → g q = h q := fun q hq => (f q hq).2.1
  have z : zCT E 10 _ _ _ 0 0 _ := ct_toss (E := E) (k := k2) (h := g) (r := r2) (l := l2) (n := n2) I2.2.2.2.2.2.2.2.1 ya I2.cost
  rw [sWK_cg (e 80 (by omega)), e 81 (by omega), e 82 (by omega)] at z
  exact ⟨k2, g, r2, l2, n2, rfl, ⟨(f 0 (by omega)).1.trans I.2.1.1, e 0 (by omega)⟩, zct_w8 z ⟨k2, g, r2, l2, n2, rfl, ⟨(f 0 (by omega)).1.trans I.2.1.1, e 0 (by omega)⟩, I2⟩⟩
