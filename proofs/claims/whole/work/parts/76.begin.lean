/-! the trip: the queue and the beginning -/
theorem qM_beg {p : Int → Int} {dd : Int} {g : Nat → Int → Int} (hdd : dd = 1 ∨ dd = 3) (p0 : 0 ≤ p 0) (hq : ∀ j : Int, 0 ≤ j → j < rN p dd → g 54 j = qN dd j) : (∀ y, (y ∈ rl (g 54) (rN p dd).toNat) ↔ (0 ≤ y ∧ y < 3 * p 0 ∧ y % 3 < dd)) ∧ (∀ x y : Int, 0 ≤ x → x < y → y < rN p dd → ¬ g 54 x = g 54 y) := by
  unfold rN qN at *
  rcases hdd with e | e
  · subst e
    rw [if_pos rfl] at hq ⊢
    refine ⟨fun y => ⟨fun hy => ?_, fun hy => ?_⟩, fun x y x0 xy y1 => ?_⟩
    · obtain ⟨j, j0, j1, e⟩ := rl_mem _ hy
      have := hq j j0 (by omega)
      rw [if_pos rfl] at this
      omega
    · have z := rl_of (a := g 54) (n := (p 0).toNat) (j := y / 3) (by omega) (by omega)
      have z2 := hq (y / 3) (by omega) (by omega)
      rw [if_pos rfl] at z2
      rw [z2, show 3 * (y / 3) = y by omega] at z
      exact z
    · have z1 := hq x x0 (by omega)
      have z2 := hq y (by omega) (by omega)
      rw [if_pos rfl] at z1 z2
      omega
  · subst e
    have n31 : ¬ (3 : Int) = 1 := by omega
    rw [if_neg n31] at hq ⊢
    refine ⟨fun y => ⟨fun hy => ?_, fun hy => ?_⟩, fun x y x0 xy y1 => ?_⟩
    · obtain ⟨j, j0, j1, e⟩ := rl_mem _ hy
      have := hq j j0 (by omega)
      rw [if_neg n31] at this
      omega
    · have z := rl_of (a := g 54) (n := (3 * p 0).toNat) (j := y) (by omega) (by omega)
      have z2 := hq y (by omega) (by omega)
      rw [if_neg n31] at z2
      rw [z2] at z
      exact z
    · have z1 := hq x x0 (by omega)
      have z2 := hq y (by omega) (by omega)
      rw [if_neg n31] at z1 z2
      omega
theorem dC_60 {p : Int → Int} {w dd : Int} : dC p w dd 60 = p := by
  funext j
  exact if_pos rfl
theorem dC_17 {p : Int → Int} {w dd : Int} : dC p w dd 59 17 = w := by
  unfold dC
  rw [if_neg (by omega), if_pos ⟨rfl, rfl⟩]
theorem dC_18 {p : Int → Int} {w dd : Int} : dC p w dd 59 18 = dd := by
  unfold dC
  rw [if_neg (by omega), if_neg (by omega), if_pos ⟨rfl, rfl⟩]
theorem beg_p {p : Int → Int} {w dd q : Int} (q0 : 0 ≤ q) (q1 : q < p 6) : sBeg (dC p w dd) 69 q = -4 ∧ sBeg (dC p w dd) 71 q = -4 ∧ sBeg (dC p w dd) 72 q = 0 ∧ sBeg (dC p w dd) 74 q = 0 := by
  unfold sBeg sB2
  rw [dC_60]
  refine ⟨?_, ?_, ?_, ?_⟩
  · show (if 0 ≤ q ∧ q < p 6 ∧ 69 ≤ 69 ∧ 69 ≤ 74 then (if 69 ≤ 71 then (-4 : Int) else 0) else _) = _
    rw [if_pos ⟨q0, q1, by omega, by omega⟩, if_pos (by omega)]
  · show (if 0 ≤ q ∧ q < p 6 ∧ 69 ≤ 71 ∧ 71 ≤ 74 then (if 71 ≤ 71 then (-4 : Int) else 0) else _) = _
    rw [if_pos ⟨q0, q1, by omega, by omega⟩, if_pos (by omega)]
  · show (if 0 ≤ q ∧ q < p 6 ∧ 69 ≤ 72 ∧ 72 ≤ 74 then (if 72 ≤ 71 then (-4 : Int) else 0) else _) = _
    rw [if_pos ⟨q0, q1, by omega, by omega⟩, if_neg (by omega)]
  · show (if 0 ≤ q ∧ q < p 6 ∧ 69 ≤ 74 ∧ 74 ≤ 74 then (if 74 ≤ 71 then (-4 : Int) else 0) else _) = _
    rw [if_pos ⟨q0, q1, by omega, by omega⟩, if_neg (by omega)]
theorem beg_t {p : Int → Int} {w dd y : Int} (y0 : 0 ≤ y) (y1 : y < 3 * p 0) : sBeg (dC p w dd) 63 y = (if y % 3 < dd then 0 else 5) ∧ sBeg (dC p w dd) 64 y = p (11 + 2 * (y / 3)) + y % 3 * p 3 ∧ sBeg (dC p w dd) 65 y = 0 ∧ sBeg (dC p w dd) 66 y = 0 := by
  unfold sBeg
  rw [sB2_lo (by omega), sB2_lo (by omega), sB2_lo (by omega), sB2_lo (by omega)]
  unfold sB1
  rw [dC_60, dC_18]
  refine ⟨?_, ?_, ?_, ?_⟩
  · rw [if_pos ⟨y0, y1, by omega, by omega⟩, if_pos rfl]
  · rw [if_pos ⟨y0, y1, by omega, by omega⟩, if_neg (by omega), if_pos rfl]
  · rw [if_pos ⟨y0, y1, by omega, by omega⟩, if_neg (by omega), if_neg (by omega)]
  · rw [if_pos ⟨y0, y1, by omega, by omega⟩, if_neg (by omega), if_neg (by omega)]
theorem tT_beg {p : Int → Int} {w dd : Int} {g : Nat → Int → Int} (hw : w = -4 ∨ (0 ≤ w ∧ w < p 6)) (h1 : ∀ t : Int, 0 ≤ t → t < cnP p w → g 44 t = -1 ∧ g 47 t = 0 ∧ g 48 t = 0) (h2 : ∀ x : Int, 0 ≤ x → x < 3 * p 0 → x % 3 < dd → g 49 (5 * x) = p (11 + 2 * (x / 3)) + x % 3 * p 3 ∧ g 51 x = 0 ∧ g 52 x = 0 ∧ g 53 x = 0) : tT p w dd g (sBeg (dC p w dd)) := by
  refine ⟨⟨fun w0 => ?_, fun t t0 t1 => ?_⟩, fun y y0 y1 y2 => ?_, fun y y0 y1 y2 => ?_⟩
  · rw [(beg_p w0 (by omega)).1]
    omega
  · obtain ⟨s0, s1, -⟩ := sg_lt (p := p) t0 t1
    obtain ⟨b1, b2, b3, b4⟩ := beg_p (p := p) (w := w) (dd := dd) s0 s1
    obtain ⟨a1, a2, a3⟩ := h1 t t0 t1
    rw [b1, b2, b3, b4, a1, a2, a3]
    exact ⟨rfl, fun z => by omega, fun z => by omega, rfl, rfl, fun _ => by omega⟩
  · obtain ⟨-, a2, a3, a4⟩ := h2 y y0 y1 y2
    obtain ⟨b1, b2, b3, b4⟩ := beg_t (p := p) (w := w) (dd := dd) y0 y1
    rw [a3, a4, b3]
    refine ⟨rfl, by omega, by omega, fun j j0 j1 => ?_⟩
    have e : oB p w (sBeg (dC p w dd)) y j = false := by
      refine decide_eq_false fun z => ?_
      obtain ⟨s0, s1, -⟩ := sg_lt (p := p) j0 z.1
      have := (beg_p (p := p) (w := w) (dd := dd) s0 s1).1
      omega
    rw [e, if_neg Bool.false_ne_true]
    unfold zbt
    rw [Int.zero_ediv]
    rfl
  · obtain ⟨a1, a2, a3, a4⟩ := h2 y y0 y1 y2
    obtain ⟨b1, b2, b3, b4⟩ := beg_t (p := p) (w := w) (dd := dd) y0 y1
    rw [if_pos y2] at b1
    rw [a2, b4, b1, b2, Int.add_zero]
    exact ⟨rfl, fun _ => a1, fun b c0 c1 => by omega⟩
theorem sRS_end {a : Int} {H : Nat → Int → Int} (hn : ∀ y : Int, 0 ≤ y → y < nT H → ¬ H 63 y = a) : ∀ c : Nat, sRS a c H = H
  | 0 => rfl
  | c + 1 => by
    show (if sNa a H (nT H) < 0 then H else sRS a c (sStop (sNa a H (nT H)) H)) = H
    rcases sNa_in a H (nT H) with e | ⟨e0, e1, e2⟩
    · rw [if_pos (by rw [e]; omega)]
    · exact absurd e2 (hn _ e0 e1)
theorem sRS_one {a x : Int} {H : Nat → Int → Int} (e : sNa a H (nT H) = x) (x0 : 0 ≤ x) (c : Nat) : sRS a (c + 1) H = sRS a c (sStop x H) := by
  show (if sNa a H (nT H) < 0 then H else sRS a c (sStop (sNa a H (nT H)) H)) = _
  rw [e, if_neg (by omega)]
