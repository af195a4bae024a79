/-! a day stop by stop comes to the same -/
theorem sFF_ok : ∀ (k : Nat), k ≤ 5 → ∀ {h : Nat → Int → Int}, dZ h → dZ (sFF k h) ∧ sFF k h 60 = h 60 ∧ (∀ j, ¬ j = 19 → sFF k h 59 j = h 59 j)
  | 0, _, _, hd => ⟨hd, rfl, fun _ _ => rfl⟩
  | k + 1, hk, h, hd => by
    obtain ⟨i1, i2, i3⟩ := sFF_ok k (by omega) hd
    obtain ⟨j1, j2, j3, -⟩ := sRS_ok (a := (k : Int)) (by omega) 12 i1
    exact ⟨j1, j2.trans i2, fun j hj => (j3 j hj).trans (i3 j hj)⟩
theorem sFF_pre {x : Int} {h : Nat → Int → Int} {b : Nat} (hd : dZ h) (x0 : 0 ≤ x) (x1 : x < 3 * h 60 0) (xb : h 63 x = b) (b5 : b < 5) (hl : ∀ y : Int, 0 ≤ y → y < 3 * h 60 0 → h 63 y < 5 → lx h x y) : ∀ k : Nat, k ≤ b → sFF k h 63 x = b ∧ sFF k h 64 x = h 64 x ∧ (∀ y : Int, 0 ≤ y → y < 3 * h 60 0 → sFF k h 63 y < 5 → lx (sFF k h) x y) ∧ hE (sFF k (sStop x h)) (sStop x (sFF k h))
  | 0, _ => ⟨xb, rfl, hl, hE.rf⟩
  | k + 1, hk => by
    obtain ⟨i1, i2, i3, i4⟩ := sFF_pre hd x0 x1 xb b5 hl k (by omega)
    obtain ⟨d1, d2, d3⟩ := sFF_ok k (by omega) hd
    obtain ⟨j1, j2, j3, j4, j5⟩ := sRS_ok (a := (k : Int)) (by omega) 12 d1
    rw [d2] at j4 j5
    obtain ⟨-, t, z⟩ := dZ_stop hd x0 x1 (by omega)
    obtain ⟨e1, -⟩ := sFF_ok k (by omega) z
    obtain ⟨-, -, z2⟩ := dZ_stop d1 (x := x) x0 (by rw [d2]; exact x1) (by omega)
    have u3 := j4 x x0 x1 (by omega) 63 (by omega) (by omega)
    have u4 := j4 x x0 x1 (by omega) 64 (by omega) (by omega)
    refine ⟨u3.trans i1, u4.trans i2, fun y y0 y1 y5 => ?_, ?_⟩
    · show lx (sRS (k : Int) 12 (sFF k h)) x y
      have y5 : sRS (k : Int) 12 (sFF k h) 63 y < 5 := y5
      unfold lx
      rw [u4]
      by_cases c : sFF k h 63 y = k
      · have q := j5 y y0 y1 c
        have w := i3 y y0 y1 (by omega)
        unfold lx at w
        omega
      · have q3 := j4 y y0 y1 c 63 (by omega) (by omega)
        have q4 := j4 y y0 y1 c 64 (by omega) (by omega)
        rw [q4]
        exact i3 y y0 y1 (by omega)
    · show hE (sRS (k : Int) 12 (sFF k (sStop x h))) (sStop x (sRS (k : Int) 12 (sFF k h)))
      exact (sRS_E (by omega) 12 e1 z2 i4).tr (sRS_sw (by omega) 12 d1 x0 (by rw [d2]; exact x1) (by omega) (by omega))
theorem sFF_key {x : Int} {h : Nat → Int → Int} {b : Nat} (hd : dZ h) (x0 : 0 ≤ x) (x1 : x < 3 * h 60 0) (xb : h 63 x = b) (b5 : b < 5) (hl : ∀ y : Int, 0 ≤ y → y < 3 * h 60 0 → h 63 y < 5 → lx h x y) : hE (sFF 5 h) (sFF 5 (sStop x h)) := by
  obtain ⟨i1, i2, i3, i4⟩ := sFF_pre hd x0 x1 xb b5 hl b (Nat.le_refl _)
  obtain ⟨d1, d2, d3⟩ := sFF_ok b (by omega) hd
  obtain ⟨-, t, z⟩ := dZ_stop hd x0 x1 (by omega)
  obtain ⟨e1, -⟩ := sFF_ok b (by omega) z
  obtain ⟨-, t2, z2⟩ := dZ_stop d1 (x := x) x0 (by rw [d2]; exact x1) (by omega)
  have hn := nT_is d1
  have ex : sNa (b : Int) (sFF b h) (nT (sFF b h)) = x := sNa_is x0 (by rw [hn.1, d2]; exact x1) i1 fun y y0 y1 ya => i3 y y0 (by rw [hn.1, d2] at y1; exact y1) (by omega)
  have s1 : sRS (b : Int) 12 (sFF b h) = sRS (b : Int) 11 (sStop x (sFF b h)) := by
    show (if sNa (b : Int) (sFF b h) (nT (sFF b h)) < 0 then sFF b h else sRS (b : Int) 11 (sStop (sNa (b : Int) (sFF b h) (nT (sFF b h))) (sFF b h))) = _
    rw [ex, if_neg (by omega)]
  have en : nT (sStop x (sFF b h)) = nT (sFF b h) := by unfold nT; rw [t2.1 60 (by omega) (by omega)]
  have s2 : sRS (b : Int) 12 (sStop x (sFF b h)) = sRS (b : Int) 11 (sStop x (sFF b h)) := by
    refine sRS_fu (by omega) 11 z2 ?_
    have := sCt_lt (a := (b : Int)) (h := sStop x (sFF b h)) x0 (by rw [t2.2.2.2.1]; omega) (nT (sFF b h)) (by rw [hn.1, d2]; exact x1)
    rw [en]
    omega
  have s3 : hE (sFF (b + 1) h) (sFF (b + 1) (sStop x h)) := by
    show hE (sRS (b : Int) 12 (sFF b h)) (sRS (b : Int) 12 (sFF b (sStop x h)))
    rw [s1, ← s2]
    exact sRS_E (by omega) 12 z2 e1 i4.sy
  have st : ∀ k : Nat, b + 1 + k ≤ 5 → hE (sFF (b + 1 + k) h) (sFF (b + 1 + k) (sStop x h)) := fun k => by
    induction k with
    | zero => exact fun _ => s3
    | succ k ih =>
      intro hk
      have q := ih (by omega)
      show hE (sRS ((b + 1 + k : Nat) : Int) 12 (sFF (b + 1 + k) h)) (sRS ((b + 1 + k : Nat) : Int) 12 (sFF (b + 1 + k) (sStop x h)))
      exact sRS_E (by omega) 12 (sFF_ok _ (by omega) hd).1 (sFF_ok _ (by omega) z).1 q
  have := st (5 - (b + 1)) (by omega)
  rw [show b + 1 + (5 - (b + 1)) = 5 by omega] at this
  exact this
theorem sFF_none {h : Nat → Int → Int} (hd : dZ h) (hn : ∀ y : Int, 0 ≤ y → y < 3 * h 60 0 → 5 ≤ h 63 y) : ∀ k : Nat, k ≤ 5 → sFF k h = h
  | 0, _ => rfl
  | k + 1, hk => by
    show sRS (k : Int) 12 (sFF k h) = h
    rw [sFF_none hd hn k (by omega)]
    show (if sNa (k : Int) h (nT h) < 0 then h else _) = h
    have j := sNa_in (k : Int) h (nT h)
    have i := nT_is hd
    rw [if_pos]
    rcases j with j | ⟨j1, j2, j3⟩
    · omega
    · have := hn _ j1 (by omega)
      omega
theorem sMz_one {h : Nat → Int → Int} : ∀ c : Nat, (∀ y : Int, 0 ≤ y → y < c → h 63 y ≤ 5) → ∀ y : Int, 0 ≤ y → y < c → 5 - h 63 y ≤ sMz h c
  | 0, _, y, y0, y1 => by omega
  | c + 1, hy, y, y0, y1 => by
    have j := hy c (by omega) (by omega)
    have g := sMz_ge (h := h) c (fun y y0 y1 => hy y y0 (by omega))
    show 5 - h 63 y ≤ sMz h c + (5 - h 63 c)
    by_cases e : y = c
    · rw [e]; omega
    · have := sMz_one (h := h) c (fun y y0 y1 => hy y y0 (by omega)) y y0 (by omega)
      omega
theorem sFF_evs : ∀ (c : Nat) {h : Nat → Int → Int}, dZ h → sMz h (nT h) ≤ c → hE (sFF 5 h) (sEvs c h)
  | 0, h, hd, hm => by
    have i := nT_is hd
    have hn : ∀ y : Int, 0 ≤ y → y < 3 * h 60 0 → 5 ≤ h 63 y := fun y y0 y1 => by
      have := sMz_one (h := h) (nT h) (fun y y0 y1 => (hd.2 y y0 (by omega)).1.2) y y0 (by omega)
      omega
    rw [sFF_none hd hn 5 (Nat.le_refl _)]
    exact hE.rf
  | c + 1, h, hd, hm => by
    have i := nT_is hd
    have j := sNx_in h (nT h)
    have le := sNx_le h (nT h)
    unfold sEvs
    by_cases w : sNx h (nT h) < 0
    · rw [if_pos w]
      have hn : ∀ y : Int, 0 ≤ y → y < 3 * h 60 0 → 5 ≤ h 63 y := fun y y0 y1 => by
        by_cases q : h 63 y < 5
        · have := le y y0 (by omega) q
          omega
        · omega
      rw [sFF_none hd hn 5 (Nat.le_refl _)]
      exact hE.rf
    · rw [if_neg w]
      generalize sNx h (nT h) = x at *
      have x0 : 0 ≤ x := by omega
      have x1 : x < 3 * h 60 0 := by omega
      have x5 : h 63 x < 5 := by omega
      obtain ⟨-, t, z⟩ := dZ_stop hd x0 x1 x5
      have r := (hd.2 x x0 x1).1
      have en : nT (sStop x h) = nT h := by unfold nT; rw [t.1 60 (by omega) (by omega)]
      have mm := sMz_st (h := h) (g := sStop x h) (x := x) x0 t.2.2.2.1 (fun y hy => t.2.2.1 63 y (by omega) (by omega) hy) (nT h)
      rw [if_pos (by omega)] at mm
      have k1 := sFF_key (b := (h 63 x).toNat) hd x0 x1 (by omega) (by omega) (fun y y0 y1 y5 => (le y y0 (by omega) y5).2)
      exact k1.tr (sFF_evs c z (by rw [en]; omega))
/-- the day of a plan, stop by stop -/
def dFF (p : Int → Int) (w dd : Int) : Nat → Int → Int := sFF 5 (sBeg (dC p w dd))
theorem dFF_is {p : Int → Int} {w dd : Int} (hp : pOK p) (hw : zb w) : hE (dFF p w dd) (dN p w dd) := by
  have hd := dC_ok (dd := dd) hp hw
  obtain ⟨hz, fr⟩ := dZ_beg hd
  have n0 := hz.1.1.1
  have n1 := hz.1.1.2.1
  have e9 : (nT (sBeg (dC p w dd)) : Int) = 3 * sBeg (dC p w dd) 60 0 := by unfold nT; omega
  have ml := sMz_le (h := sBeg (dC p w dd)) (nT (sBeg (dC p w dd))) (fun y y0 y1 => (hz.2 y y0 (by omega)).1.1)
  exact sFF_evs 61 hz (by omega)
