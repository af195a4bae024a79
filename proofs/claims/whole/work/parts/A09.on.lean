/-! who arrives had got on before -/
theorem fC_64 {x a : Int} {h : Nat → Int → Int} : ∀ L : List Int, fC x a h L 64 = h 64
  | [] => rfl
  | r :: L => by
    have i := fC_64 (x := x) (a := a) (h := h) L
    show (if fC x a h L 69 r < 0 ∧ pFr (h 60) r = a then sTry x r (fC x a h L) else fC x a h L) 64 = _
    split
    · rw [← i]
      generalize fC x a h L = G
      unfold sTry
      split
      · rfl
      · split
        · split <;> rfl
        · split <;> rfl
    · exact i
theorem sTry_70 {x q : Int} {G : Nat → Int → Int} : (sTry x q G 69 q = x ∧ sTry x q G 70 q = G 64 x) ∨ (sTry x q G 69 q = G 69 q ∧ sTry x q G 70 q = G 70 q) := by
  unfold sTry
  split
  · exact Or.inl ⟨by show (if q = q then x else _) = x; exact if_pos rfl, by show (if q = q then G 64 x else _) = _; exact if_pos rfl⟩
  · split
    · split <;> exact Or.inr ⟨rfl, rfl⟩
    · split <;> exact Or.inr ⟨rfl, rfl⟩
theorem fC_70 {x a q : Int} {h : Nat → Int → Int} : ∀ L : List Int, L.Nodup → (fC x a h L 69 q = h 69 q ∧ fC x a h L 70 q = h 70 q) ∨ (h 69 q < 0 ∧ fC x a h L 69 q = x ∧ fC x a h L 70 q = h 64 x)
  | [], _ => Or.inl ⟨rfl, rfl⟩
  | r :: L, hn => by
    have hn := List.nodup_cons.mp hn
    have i := fC_70 (x := x) (a := a) (q := q) (h := h) L hn.2
    have ef : fC x a h (r :: L) = if fC x a h L 69 r < 0 ∧ pFr (h 60) r = a then sTry x r (fC x a h L) else fC x a h L := rfl
    rw [ef]
    by_cases c : fC x a h L 69 r < 0 ∧ pFr (h 60) r = a
    · rw [if_pos c]
      by_cases e : q = r
      · subst e
        have f9 := fC_fr2 (x := x) (a := a) (h := h) (n := 69) (Or.inl rfl) L hn.1
        have f0 := fC_fr2 (x := x) (a := a) (h := h) (n := 70) (Or.inr (Or.inl rfl)) L hn.1
        have t := sTry_70 (x := x) (q := q) (G := fC x a h L)
        rw [f9] at c
        rw [f9, f0, fC_64] at t
        rcases t with t | t
        · exact Or.inr ⟨c.1, t⟩
        · exact Or.inl t
      · rw [sTry_fr (Or.inl rfl) e, sTry_fr (Or.inr (Or.inl rfl)) e]
        exact i
    · rw [if_neg c]
      exact i
theorem eV70 {p : Int → Int} {w x a : Int} {h : Nat → Int → Int} (hd : dP h) (e6 : h 60 = p) (ew : h 59 17 = w) (ha : h 63 x = a) (h4 : zb (h 64 x)) (x0 : 0 ≤ x) (x1 : x < 12) (hf : ∀ q : Int, 0 ≤ q → q < p 6 → ¬ pFr p q = 4) (a4 : a ≤ 4) {q : Int} : (sStop x h 69 q = h 69 q ∧ sStop x h 70 q = h 70 q) ∨ (h 69 q < 0 ∧ sStop x h 69 q = x ∧ sStop x h 70 q = h 64 x) := by
  obtain ⟨s1, -⟩ := sStop_F (p := p) (w := w) (a := a) hd e6 ew ha h4 x0 x1 (fun _ => hf) a4
  rw [congrFun (s1 69 (by omega) (by omega) (by omega) (by omega) (by omega)) q, congrFun (s1 70 (by omega) (by omega) (by omega) (by omega) (by omega)) q]
  have fl := fL_in (p := p) (w := w) (p 6).toNat
  obtain ⟨n1, n2, -⟩ := sS2_n (x := x) (H := h)
  have t := fC_70 (x := x) (a := a) (q := q) (h := sS2 x h) (fL p w (p 6).toNat) fl.2.2
  rw [n1, n2 70 (by omega), n2 64 (by omega)] at t
  exact t
def dQz (p : Int → Int) (h : Nat → Int → Int) : Prop := ∀ q : Int, 0 ≤ q → q < p 6 → 0 ≤ h 69 q → (h 71 q < 0 → h 70 q ≤ h 64 (h 69 q)) ∧ (0 ≤ h 71 q → h 70 q ≤ h 71 q)
theorem dQz_stop {p : Int → Int} {w x : Int} {h : Nat → Int → Int} (hz : dZ h) (e6 : h 60 = p) (ew : h 59 17 = w) (hft : ∀ q : Int, 0 ≤ q → q < p 6 → pFr p q < pTo p q) (x0 : 0 ≤ x) (x1 : x < 3 * p 0) (x5 : h 63 x < 5) (dq : dQy p w h) (dz : dQz p h) : dQz p (sStop x h) := by
  have hp : pOK p := e6 ▸ hz.1.1
  have p4 := hp.2.1
  have p68 := hp.2.2.2.2.2.2.2.2.2.2.2.2.2.1
  obtain ⟨dx, t, z⟩ := dZ_stop hz x0 (by rw [e6]; exact x1) x5
  obtain ⟨⟨a0, a4⟩, ⟨b0, b1⟩, -, -⟩ := dx
  have of : ∀ q : Int, 0 ≤ q → q < p 6 → pFr p q < pOf p q ∧ pOf p q ≤ 4 := fun q q0 q1 => pOf_gt hp q0 (by omega) (hft q q0 q1)
  have hf : ∀ q : Int, 0 ≤ q → q < p 6 → ¬ pFr p q = 4 := fun q q0 q1 => by have := of q q0 q1; omega
  obtain ⟨-, -, -, s64, -⟩ := sStop_F (p := p) (w := w) (a := h 63 x) hz.1 e6 ew rfl ⟨by omega, by omega⟩ x0 (by omega) (fun _ => hf) a4
  have up : ∀ y : Int, h 64 y ≤ sStop x h 64 y := fun y => by
    rw [s64 y]
    by_cases c : h 63 x < 4 ∧ y = x
    · rw [if_pos c, c.2]
      have p7 := hp.2.2.2.2.2.2.2.2.2.2.2.2.2.2.1 (7 + h 63 x) (by omega) (by omega)
      have p40 := hp.2.2.2.2.2.2.2.2.1
      have p50 := hp.2.2.2.2.2.2.2.2.2.2.1
      have m1 : 0 ≤ p (7 + h 63 x) * (x % 3) * p 4 := Int.mul_nonneg (Int.mul_nonneg (by omega) (by omega)) p40
      have m2 : 0 ≤ p (7 + h 63 x) * (x % 3) * p 4 / 10 := Int.ediv_nonneg m1 (by omega)
      have m3 : 0 ≤ (if 0 < x % 3 ∧ 0 < sF p w x (h 63 x) h 59 19 then p 5 else 0) := by split <;> omega
      omega
    · rw [if_neg c]
      exact Int.le_refl _
  intro q q0 q1
  obtain ⟨v71, -⟩ := eV (p := p) (w := w) (a := h 63 x) hz.1 e6 ew rfl ⟨by omega, by omega⟩ x0 (by omega) hf a0 a4 q0 q1
  have y2 := (dq.2 q q0 q1).2.1
  rcases eV70 (p := p) (w := w) (a := h 63 x) hz.1 e6 ew rfl ⟨by omega, by omega⟩ x0 (by omega) hf a4 (q := q) with ⟨v1, v2⟩ | ⟨v0, v1, v2⟩
  · rw [v1, v2, v71]
    intro g0
    obtain ⟨i1, i2⟩ := dz q q0 q1 g0
    by_cases c : h 69 q = x ∧ h 71 q < 0 ∧ pOf p q = h 63 x
    · rw [if_pos c]
      have := i1 c.2.1
      rw [c.1] at this
      exact ⟨fun g => by omega, fun _ => this⟩
    · rw [if_neg c]
      have u := up (h 69 q)
      exact ⟨fun g => by have := i1 g; omega, i2⟩
  · rw [v1, v2, v71, if_neg (fun c => by omega)]
    intro g0
    have u := up x
    exact ⟨fun _ => u, fun g => by have := (y2 g).2; omega⟩
theorem dQz_evs {p : Int → Int} {w : Int} (hft : ∀ q : Int, 0 ≤ q → q < p 6 → pFr p q < pTo p q) : ∀ (c : Nat) {h : Nat → Int → Int}, dZ h → h 60 = p → h 59 17 = w → dQy p w h → dQz p h → dQz p (sEvs c h)
  | 0, _, _, _, _, _, q => q
  | c + 1, h, hz, e6, ew, q, q2 => by
    have i := sNx_in h (nT h)
    have n := (nT_is hz).1
    rw [e6] at n
    unfold sEvs
    generalize sNx h (nT h) = x at *
    by_cases z : x < 0
    · rw [if_pos z]
      exact q2
    · rw [if_neg z]
      obtain ⟨-, t, zz⟩ := dZ_stop hz (x := x) (by omega) (by rw [e6]; omega) (by omega)
      exact dQz_evs hft c zz ((t.1 60 (by omega) (by omega)).trans e6) ((t.2.1 17 (by omega)).trans ew) (dQy_stop hz e6 ew hft (by omega) (by omega) (by omega) q) (dQz_stop hz e6 ew hft (by omega) (by omega) (by omega) q q2)
theorem dQz_dN {p : Int → Int} {w dd : Int} (hp : pOK p) (zw : zb w) (hft : ∀ q : Int, 0 ≤ q → q < p 6 → pFr p q < pTo p q) : dQz p (dN p w dd) := by
  have hd := dC_ok (dd := dd) hp zw
  obtain ⟨hz, fr⟩ := dZ_beg hd
  have e6 : sBeg (dC p w dd) 60 = p := (fr 60 (by omega)).trans dC_60
  have ew : sBeg (dC p w dd) 59 17 = w := (congrFun (fr 59 (by omega)) 17).trans dC_17
  refine dQz_evs hft 61 hz e6 ew ⟨fun y y0 y1 y4 => ?_, fun q q0 q1 => ?_⟩ (fun q q0 q1 z => ?_)
  · have t := (beg_t (p := p) (w := w) (dd := dd) y0 y1).1
    have u := (hz.2 y y0 (by rw [e6]; exact y1)).2.1.1
    by_cases c : y % 3 < dd
    · rw [if_pos c] at t
      omega
    · rw [if_neg c] at t
      omega
  · obtain ⟨b1, b2, b3, b4⟩ := beg_p (p := p) (w := w) (dd := dd) q0 q1
    have b5 : sBeg (dC p w dd) 73 q = 0 := by
      unfold sBeg sB2
      rw [dC_60]
      show (if 0 ≤ q ∧ q < p 6 ∧ 69 ≤ 73 ∧ 73 ≤ 74 then (if 73 ≤ 71 then (-4 : Int) else 0) else _) = _
      rw [if_pos ⟨q0, q1, by omega, by omega⟩, if_neg (by omega)]
    have p0 := hp.1
    rw [b1, b2, b3, b5]
    refine ⟨fun z => by omega, fun z => by omega, by omega, fun _ => by omega, rfl, fun y y0 y1 z => ?_⟩
    unfold zbt at z
    rw [Int.zero_ediv] at z
    omega
  · obtain ⟨b1, -⟩ := beg_p (p := p) (w := w) (dd := dd) q0 q1
    omega
