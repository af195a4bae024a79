/-! facts of a day -/
theorem zbA_bit (x i : Nat) : zbA x i = (x.testBit i).toNat := by
  rw [Nat.testBit_eq_decide_div_mod_eq]
  unfold zbA
  have : x / 2 ^ i % 2 = 0 ∨ x / 2 ^ i % 2 = 1 := by omega
  rcases this with h | h <;> rw [h] <;> rfl
theorem zbA_or {m k j : Nat} : zbA (m ||| 2 ^ k) j = if j = k then 1 else zbA m j := by
  rw [zbA_bit, zbA_bit, Nat.testBit_or, Nat.testBit_two_pow]
  by_cases c : j = k
  · subst c
    rw [if_pos rfl, decide_eq_true rfl, Bool.or_true]
    rfl
  · rw [if_neg c, decide_eq_false (fun z => c z.symm), Bool.or_false]
theorem pcN_or {m k : Nat} (h : zbA m k = 0) : ∀ c : Nat, pcN (m ||| 2 ^ k) c = pcN m c + (if k < c then 1 else 0)
  | 0 => rfl
  | c + 1 => by
    have i := pcN_or h c
    show pcN (m ||| 2 ^ k) c + zbA (m ||| 2 ^ k) c = pcN m c + zbA m c + _
    rw [i, zbA_or]
    by_cases e : c = k
    · subst e
      rw [if_pos rfl, if_neg (by omega), if_pos (by omega), h]
    · rw [if_neg e]
      by_cases z : k < c
      · rw [if_pos z, if_pos (by omega)]; omega
      · rw [if_neg z, if_neg (by omega)]; omega
theorem zsb_or {m k : Nat} (m1 : m < 4096) (k1 : k < 12) : zsb (m : Int) (k : Int) = ((m ||| 2 ^ k : Nat) : Int) := by
  have b := (zbit_nat m1 k1).1
  unfold zsb
  rw [zbt_nat, b]
  unfold z2
  rw [Int.toNat_natCast]
  by_cases e : zbA m k = 0
  · rw [e, if_pos (show ((0 : Nat) : Int) = 0 from rfl)]
    rfl
  · have e2 : Nat.beq (zbA m k) 0 = false := by
      cases z : Nat.beq (zbA m k) 0
      · rfl
      · exact absurd (Nat.eq_of_beq_eq_true z) e
    rw [e2, if_neg (by omega)]
    rfl
theorem zbt_zsb {m k j : Int} (m0 : 0 ≤ m) (m1 : m < 4096) (k0 : 0 ≤ k) (k1 : k < 12) (j0 : 0 ≤ j) : zbt (zsb m k) j = if j = k then 1 else zbt m j := by
  obtain ⟨m, rfl⟩ := Int.eq_ofNat_of_zero_le m0
  obtain ⟨k, rfl⟩ := Int.eq_ofNat_of_zero_le k0
  obtain ⟨j, rfl⟩ := Int.eq_ofNat_of_zero_le j0
  rw [zsb_or (by omega) (by omega), zbt_nat, zbt_nat, zbA_or]
  by_cases e : j = k
  · rw [if_pos e, if_pos (by omega)]
    rfl
  · rw [if_neg e, if_neg (by omega)]
theorem pcI_zsb {m k : Int} (m0 : 0 ≤ m) (m1 : m < 4096) (k0 : 0 ≤ k) (k1 : k < 12) (h : zbt m k = 0) : pcI (zsb m k) = pcI m + 1 := by
  obtain ⟨m, rfl⟩ := Int.eq_ofNat_of_zero_le m0
  obtain ⟨k, rfl⟩ := Int.eq_ofNat_of_zero_le k0
  rw [zbt_nat] at h
  rw [zsb_or (by omega) (by omega)]
  unfold pcI
  rw [Int.toNat_natCast, Int.toNat_natCast, pcN_or (by omega), if_pos (by omega)]
  omega
theorem pOf_gt {p : Int → Int} (hp : pOK p) {q : Int} (q0 : 0 ≤ q) (q8 : q < 8) (h : pFr p q < pTo p q) : pFr p q < pOf p q ∧ pOf p q ≤ 4 := by
  obtain ⟨-, -, -, ⟨t0, t1⟩, -⟩ := hp.2.2.2.2.2.2.2.2.2.2.2.2.2.2.2.2 q q0 q8
  unfold pOf kOf
  split <;> omega
def dQy (p : Int → Int) (w : Int) (h : Nat → Int → Int) : Prop := (∀ y : Int, 0 ≤ y → y < 3 * p 0 → h 63 y ≤ 4 → h 63 y ≤ h 64 y) ∧ ∀ q : Int, 0 ≤ q → q < p 6 → (0 ≤ h 69 q → h 71 q < 0 → h 63 (h 69 q) ≤ pOf p q) ∧ (0 ≤ h 71 q → 1 ≤ h 71 q ∧ 0 ≤ h 69 q) ∧ h 69 q < 3 * p 0 ∧ (q = w → h 69 q < 0) ∧ pcI (h 72 q) = h 73 q ∧ (∀ y : Int, 0 ≤ y → y < 12 → zbt (h 72 q) y = 1 → pFr p q < h 63 y)
theorem dQy_stop {p : Int → Int} {w x : Int} {h : Nat → Int → Int} (hz : dZ h) (e6 : h 60 = p) (ew : h 59 17 = w) (hft : ∀ q : Int, 0 ≤ q → q < p 6 → pFr p q < pTo p q) (x0 : 0 ≤ x) (x1 : x < 3 * p 0) (x5 : h 63 x < 5) (dq : dQy p w h) : dQy p w (sStop x h) := by
  have hp : pOK p := e6 ▸ hz.1.1
  have p4 := hp.2.1
  have p68 := hp.2.2.2.2.2.2.2.2.2.2.2.2.2.1
  obtain ⟨dx, t, z⟩ := dZ_stop hz x0 (by rw [e6]; exact x1) x5
  obtain ⟨⟨a0, a4⟩, ⟨b0, b1⟩, -, -⟩ := dx
  have of : ∀ q : Int, 0 ≤ q → q < p 6 → pFr p q < pOf p q ∧ pOf p q ≤ 4 := fun q q0 q1 => pOf_gt hp q0 (by omega) (hft q q0 q1)
  have hf : ∀ q : Int, 0 ≤ q → q < p 6 → ¬ pFr p q = 4 := fun q q0 q1 => by have := of q q0 q1; omega
  have R63 : ∀ y, sStop x h 63 y = if y = x then h 63 x + 1 else h 63 y := fun y => by
    by_cases e : y = x
    · rw [if_pos e, e]; exact t.2.2.2.1
    · rw [if_neg e]; exact t.2.2.1 63 y (by omega) (by omega) e
  refine ⟨fun y y0 y1 y4 => ?_, fun q q0 q1 => ?_⟩
  · by_cases e : y = x
    · subst e
      rw [R63, if_pos rfl] at y4 ⊢
      obtain ⟨-, -, -, s64, -⟩ := sStop_F (p := p) (w := w) (a := h 63 y) hz.1 e6 ew rfl ⟨by omega, by omega⟩ x0 (by omega) (fun _ => hf) a4
      rw [s64 y, if_pos ⟨by omega, rfl⟩]
      have i := dq.1 y x0 x1 (by omega)
      have p7 := hp.2.2.2.2.2.2.2.2.2.2.2.2.2.2.1 (7 + h 63 y) (by omega) (by omega)
      have p40 := hp.2.2.2.2.2.2.2.2.1
      have p50 := hp.2.2.2.2.2.2.2.2.2.2.1
      have m1 : 0 ≤ p (7 + h 63 y) * (y % 3) * p 4 := Int.mul_nonneg (Int.mul_nonneg (by omega) (by omega)) p40
      have m2 : 0 ≤ p (7 + h 63 y) * (y % 3) * p 4 / 10 := Int.ediv_nonneg m1 (by omega)
      have m3 : 0 ≤ (if 0 < y % 3 ∧ 0 < sF p w y (h 63 y) h 59 19 then p 5 else 0) := by split <;> omega
      omega
    · rw [R63, if_neg e] at y4 ⊢
      rw [t.2.2.1 64 y (by omega) (by omega) e]
      exact dq.1 y y0 y1 y4
  · obtain ⟨i1, i2, i3, i4, i5, i6⟩ := dq.2 q q0 q1
    obtain ⟨o1, o2⟩ := of q q0 q1
    obtain ⟨f0, -⟩ := (hp.2.2.2.2.2.2.2.2.2.2.2.2.2.2.2.2 q q0 (by omega)).2.2.1
    obtain ⟨v71, vv⟩ := eV (p := p) (w := w) (a := h 63 x) hz.1 e6 ew rfl ⟨by omega, by omega⟩ x0 (by omega) hf a0 a4 q0 q1
    have m72 := hz.1.2.2.2.1 q q0 (by omega)
    have i64 := dq.1 x x0 x1 a4
    rcases vv with ⟨v1, v2, v3⟩ | ⟨v4, v5, v6, v7⟩
    · rw [v1, v2, v3, v71]
      refine ⟨fun g1 g2 => ?_, fun g1 => ?_, i3, i4, i5, fun y y0 y1 yb => ?_⟩
      · by_cases c : h 69 q = x ∧ h 71 q < 0 ∧ pOf p q = h 63 x
        · rw [if_pos c] at g2
          omega
        · rw [if_neg c] at g2
          have := i1 g1 g2
          rw [R63]
          by_cases e : h 69 q = x
          · rw [if_pos e]
            rw [e] at this
            omega
          · rw [if_neg e]
            exact this
      · by_cases c : h 69 q = x ∧ h 71 q < 0 ∧ pOf p q = h 63 x
        · rw [if_pos c]
          omega
        · rw [if_neg c] at g1 ⊢
          exact i2 g1
      · have := i6 y y0 y1 yb
        rw [R63]
        split
        · rename_i e
          rw [e] at this
          omega
        · exact this
    · have c : ¬ (h 69 q = x ∧ h 71 q < 0 ∧ pOf p q = h 63 x) := fun z => by omega
      rw [if_neg c] at v71
      rcases v7 with ⟨v1, v2, v3⟩ | ⟨v1, v2, v3⟩
      · rw [v1, v2, v3, v71]
        refine ⟨fun g1 g2 => ?_, fun g1 => ?_, x1, fun e => absurd e v4, i5, fun y y0 y1 yb => ?_⟩
        · rw [R63, if_pos rfl]
          omega
        · have := i2 g1
          omega
        · have := i6 y y0 y1 yb
          rw [R63]
          split
          · rename_i e
            rw [e] at this
            omega
          · exact this
      · have bx : zbt (h 72 q) x = 0 := by
          rcases zbt_01 (h 72 q) x with e | e
          · exact e
          · have := i6 x x0 (by omega) e
            omega
        rw [v1, v2, v3, v71]
        refine ⟨fun g1 g2 => by omega, fun g1 => i2 g1, i3, fun e => absurd e v4, ?_, fun y y0 y1 yb => ?_⟩
        · rw [pcI_zsb m72.1 m72.2 x0 (by omega) bx, i5]
        · rw [zbt_zsb m72.1 m72.2 x0 (by omega) y0] at yb
          rw [R63]
          by_cases e : y = x
          · rw [if_pos e]
            omega
          · rw [if_neg e] at yb ⊢
            exact i6 y y0 y1 yb
theorem dQy_evs {p : Int → Int} {w : Int} (hft : ∀ q : Int, 0 ≤ q → q < p 6 → pFr p q < pTo p q) : ∀ (c : Nat) {h : Nat → Int → Int}, dZ h → h 60 = p → h 59 17 = w → dQy p w h → dQy p w (sEvs c h)
  | 0, _, _, _, _, q => q
  | c + 1, h, hz, e6, ew, q => by
    have i := sNx_in h (nT h)
    have n := (nT_is hz).1
    rw [e6] at n
    unfold sEvs
    generalize sNx h (nT h) = x at *
    by_cases z : x < 0
    · rw [if_pos z]
      exact q
    · rw [if_neg z]
      obtain ⟨-, t, zz⟩ := dZ_stop hz (x := x) (by omega) (by rw [e6]; omega) (by omega)
      exact dQy_evs hft c zz ((t.1 60 (by omega) (by omega)).trans e6) ((t.2.1 17 (by omega)).trans ew) (dQy_stop hz e6 ew hft (by omega) (by omega) (by omega) q)
theorem dQy_dN {p : Int → Int} {w dd : Int} (hp : pOK p) (zw : zb w) (hft : ∀ q : Int, 0 ≤ q → q < p 6 → pFr p q < pTo p q) : dQy p w (dN p w dd) := by
  have hd := dC_ok (dd := dd) hp zw
  obtain ⟨hz, fr⟩ := dZ_beg hd
  have e6 : sBeg (dC p w dd) 60 = p := (fr 60 (by omega)).trans dC_60
  have ew : sBeg (dC p w dd) 59 17 = w := (congrFun (fr 59 (by omega)) 17).trans dC_17
  refine dQy_evs hft 61 hz e6 ew ⟨fun y y0 y1 y4 => ?_, fun q q0 q1 => ?_⟩
  · have t := (beg_t (p := p) (w := w) (dd := dd) y0 y1).1
    have u := (hz.2 y y0 (by rw [e6]; exact y1)).2.1.1
    by_cases c : y % 3 < dd
    · rw [if_pos c] at t
      omega
    · rw [if_neg c] at t
      omega
  · obtain ⟨b1, b2, b3, b4⟩ := beg_p (p := p) (w := w) (dd := dd) q0 q1
    have b5 : sBeg (dC p w dd) 73 q = 0 := by
      unfold sBeg sB2
      rw [dC_60]
      show (if 0 ≤ q ∧ q < p 6 ∧ 69 ≤ 73 ∧ 73 ≤ 74 then (if 73 ≤ 71 then (-4 : Int) else 0) else _) = _
      rw [if_pos ⟨q0, q1, by omega, by omega⟩, if_neg (by omega)]
    have p0 := hp.1
    rw [b1, b2, b3, b5]
    refine ⟨fun z => by omega, fun z => by omega, by omega, fun _ => by omega, rfl, fun y y0 y1 z => ?_⟩
    unfold zbt at z
    rw [Int.zero_ediv] at z
    omega
