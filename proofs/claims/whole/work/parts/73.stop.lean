/-! the trip: a stop beside the reference's event -/
def tT (p : Int → Int) (w dd : Int) (g H : Nat → Int → Int) : Prop := tP p w g H ∧ tB p w dd g H ∧ ∀ y : Int, 0 ≤ y → y < 3 * p 0 → y % 3 < dd → g 51 y = H 66 y ∧ (H 63 y ≤ 4 → g 49 (5 * y + H 63 y) = H 64 y) ∧ ∀ b : Int, 0 ≤ b → b < H 63 y → g 49 (5 * y + b) = H 67 (5 * y + b) ∧ (w = -4 → g 50 (5 * y + b) = H 68 (5 * y + b))
theorem zar_75 {h : Nat → Int → Int} {b : Int → Int} {n : Nat} {j v : Int} (hn : ¬ n = 75) : zv (zar h 75 b) n j v = zar (zv h n j v) 75 b := by
  funext m c
  by_cases a : m = 75
  · subst a
    rw [zv_other (fun z => hn z.symm), zar_at, zar_at]
  · rw [zar_other a, zv_eq, zv_eq, zar_other a]
theorem sTry_75 {x q : Int} {h : Nat → Int → Int} {b : Int → Int} : sTry x q (zar h 75 b) = zar (sTry x q h) 75 b := by
  have e : ∀ n : Nat, ¬ n = 75 → zar h 75 b n = h n := fun n hn => zar_other hn
  unfold sTry
  rw [e 60 (by omega), e 64 (by omega), e 72 (by omega), e 65 (by omega), e 74 (by omega), e 73 (by omega), e 59 (by omega)]
  split
  · rw [zar_75 (by omega), zar_75 (by omega), zar_75 (by omega), zar_75 (by omega)]
  · split
    · split
      · rw [zar_75 (by omega)]
      · rfl
    · split
      · rw [zar_75 (by omega), zar_75 (by omega), zar_75 (by omega)]
      · rw [zar_75 (by omega), zar_75 (by omega)]
theorem sTa_zar {x : Int} {h : Nat → Int → Int} {b : Int → Int} : ∀ c : Nat, sTa x (zar h 75 b) c = zar (sTz x b h c) 75 b
  | 0 => rfl
  | c + 1 => by
    show sTry x (zar h 75 b 75 c) (sTa x (zar h 75 b) c) = zar (sTry x (b c) (sTz x b h c)) 75 b
    rw [sTa_zar c, sTry_75]
    rfl
/-- all are asked at the stop a -/
abbrev sF (p : Int → Int) (w x a : Int) (H : Nat → Int → Int) : Nat → Int → Int := fC x a (sS2 x H) (fL p w (p 6).toNat)
theorem sS2_n {x : Int} {H : Nat → Int → Int} : sS2 x H 69 = H 69 ∧ (∀ n, n = 70 ∨ n = 72 ∨ n = 73 ∨ n = 74 ∨ n = 60 ∨ n = 63 ∨ n = 64 ∨ n = 66 ∨ n = 68 → sS2 x H n = H n) ∧ (∀ i, sS2 x H 67 i = if i = 5 * x + H 63 x then H 64 x else H 67 i) := by
  unfold sS2
  obtain ⟨a1, a2⟩ := sGO_69 (x := x) (h := zv (zv H 59 19 0) 67 (5 * x + H 63 x) (H 64 x)) (nP H)
  refine ⟨a1.trans rfl, fun n hn => ?_, fun i => ?_⟩
  · rw [a2 n (by omega), zv_other (by omega)]
    rcases hn with e | e | e | e | e | e | e | e | e <;> subst e <;> rfl
  · rw [a2 67 (by omega)]
    rfl
theorem sS4_F {p : Int → Int} {w x a : Int} {H : Nat → Int → Int} (hd : dP H) (e6 : H 60 = p) (ew : H 59 17 = w) (ha : H 63 x = a) (h4 : zb (H 64 x)) (hf : a = 4 → ∀ q : Int, 0 ≤ q → q < p 6 → ¬ pFr p q = 4) (a4 : a ≤ 4) : ∀ n, ¬ n = 75 → sS4 x H n = sF p w x a H n := by
  intro n hn
  have p60 := hd.1.2.2.2.2.2.2.2.2.2.2.2.2.1
  have p68 := hd.1.2.2.2.2.2.2.2.2.2.2.2.2.2.1
  rw [e6] at p60 p68
  have e60 : sS2 x H 60 = p := (sS2_n.2.1 60 (by omega)).trans e6
  have e63 : sS2 x H 63 x = a := (congrFun (sS2_n.2.1 63 (by omega)) x).trans ha
  have e59 : sS2 x H 59 17 = w := ((sS2_ok hd h4).2.1 17 (by omega)).trans ew
  have fl := fL_in (p := p) (w := w) (p 6).toNat
  have f1 := fC_fT (x := x) (a := a) (h := sS2 x H) (fL p w (p 6).toNat) fl.2.2
  unfold sF
  rw [f1]
  unfold sS4
  by_cases c : H 63 x < 4
  · rw [if_pos c]
    unfold sS3
    have np : nP H = (p 6).toNat := by unfold nP; rw [e6]
    have as := sAs_rl (x := x) (h := sS2 x H) (by rw [e60, ← e6]; exact hd.1) (p 6).toNat (by omega)
    rw [sTa_zar, zar_other hn, sTz_rl, np, as, e60, e59, e63]
  · rw [if_neg c]
    have a44 : a = 4 := by omega
    have : (fL p w (p 6).toNat).filter (fun q => decide (sS2 x H 69 q < 0 ∧ pFr (sS2 x H 60) q = a)) = [] := by
      rw [List.filter_eq_nil_iff]
      intro q hq z
      have z := of_decide_eq_true z
      rw [e60, a44] at z
      obtain ⟨b0, b1, -⟩ := fl.2.1 q hq
      exact hf a44 q b0 (by omega) z.2
    rw [this]
    rfl
theorem inR_len {K : Int → Int} {t : Int} : ∀ L : List Int, (inR K t L).length = L.length + 1
  | [] => rfl
  | q :: L => by
    unfold inR
    split
    · rw [List.length_cons, inR_len L, List.length_cons]
    · rfl
theorem fL_len {p : Int → Int} {w : Int} : ∀ c : Nat, (fL p w c).length ≤ c
  | 0 => Nat.le_refl _
  | c + 1 => by
    have i := fL_len (p := p) (w := w) c
    show (if (c : Int) = w then fL p w c else inR (kY p) c (fL p w c)).length ≤ c + 1
    split
    · omega
    · rw [inR_len]; omega
theorem sF_n {p : Int → Int} {w x a : Int} {H : Nat → Int → Int} (hd : dP H) (e6 : H 60 = p) (h4 : zb (H 64 x)) (x0 : 0 ≤ x) (x1 : x < 12) : dK x (sS2 x H) (sF p w x a H) 8 := by
  have p60 := hd.1.2.2.2.2.2.2.2.2.2.2.2.2.1
  have p68 := hd.1.2.2.2.2.2.2.2.2.2.2.2.2.2.1
  rw [e6] at p60 p68
  have fl := fL_in (p := p) (w := w) (p 6).toNat
  have k : dK x (sS2 x H) (sF p w x a H) ((fL p w (p 6).toNat).length : Int) := fC_dK (x := x) (a := a) (H := sS2 x H) (sS2_ok hd h4).2.2.2.2.2.2.2.2.1 x0 x1 (fL p w (p 6).toNat) (fun q hq => by have := fl.2.1 q hq; omega)
  have le : (fL p w (p 6).toNat).length ≤ (p 6).toNat := fL_len _
  obtain ⟨k1, k2, k3, k4⟩ := k
  exact ⟨k1, k2, ⟨by omega, by omega⟩, ⟨by omega, by omega⟩⟩
theorem sStop_F {p : Int → Int} {w x a : Int} {H : Nat → Int → Int} (hd : dP H) (e6 : H 60 = p) (ew : H 59 17 = w) (ha : H 63 x = a) (h4 : zb (H 64 x)) (x0 : 0 ≤ x) (x1 : x < 12) (hf : a = 4 → ∀ q : Int, 0 ≤ q → q < p 6 → ¬ pFr p q = 4) (a4 : a ≤ 4) :
    (∀ n, ¬ n = 75 → ¬ n = 66 → ¬ n = 68 → ¬ n = 64 → ¬ n = 63 → sStop x H n = sF p w x a H n) ∧ (∀ y, sStop x H 66 y = if y = x then max (H 66 x) (sF p w x a H 65 x) else H 66 y) ∧ (∀ i, sStop x H 68 i = if i = 5 * x + a then zmk (zabd (sF p w x a H) x) (p 6).toNat else H 68 i) ∧ (∀ y, sStop x H 64 y = if a < 4 ∧ y = x then H 64 x + ((if 0 < x % 3 ∧ 0 < sF p w x a H 59 19 then p 5 else 0) + p (7 + a) + p (7 + a) * (x % 3) * p 4 / 10) else H 64 y) ∧ (∀ y, sStop x H 63 y = if y = x then a + 1 else H 63 y) ∧ (∀ i, sStop x H 67 i = if i = 5 * x + a then H 64 x else H 67 i) := by
  have s4 := sS4_F hd e6 ew ha h4 hf a4
  have k := (sF_n (p := p) (w := w) (a := a) hd e6 h4 x0 x1).1
  have F63 : sS4 x H 63 = H 63 := (s4 63 (by omega)).trans (k.2.2.1.trans (sS2_n.2.1 63 (by omega)))
  have F64 : sS4 x H 64 = H 64 := (s4 64 (by omega)).trans (k.2.2.2.1.trans (sS2_n.2.1 64 (by omega)))
  have F66 : sS4 x H 66 = H 66 := (s4 66 (by omega)).trans (k.2.2.2.2.1.trans (sS2_n.2.1 66 (by omega)))
  have F67 : ∀ i, sS4 x H 67 i = if i = 5 * x + H 63 x then H 64 x else H 67 i := fun i => (congrFun ((s4 67 (by omega)).trans k.2.2.2.2.2.1) i).trans (sS2_n.2.2 i)
  have F68 : sS4 x H 68 = H 68 := (s4 68 (by omega)).trans (k.2.2.2.2.2.2.1.trans (sS2_n.2.1 68 (by omega)))
  have F65 : sS4 x H 65 = sF p w x a H 65 := s4 65 (by omega)
  have F59 : sS4 x H 59 = sF p w x a H 59 := s4 59 (by omega)
  have np : nP H = (p 6).toNat := by unfold nP; rw [e6]
  have eb : zabd (sS5 x H) x = zabd (sF p w x a H) x := by
    funext q
    show decide (sS4 x H 69 q = x ∧ sS4 x H 71 q < 0) = decide (sF p w x a H 69 q = x ∧ sF p w x a H 71 q < 0)
    rw [s4 69 (by omega), s4 71 (by omega)]
  have e7 : ∀ n, ¬ n = 64 → sS7 x H n = sS6 x H n := fun n hn => by
    unfold sS7
    split
    · exact zv_other hn
    · rfl
  refine ⟨fun n n5 n6 n8 n4 n3 => ?_, fun y => ?_, fun i => ?_, fun y => ?_, fun y => ?_, fun i => ?_⟩
  · unfold sStop
    rw [zv_other n3, e7 n n4]
    unfold sS6
    rw [zv_other n8]
    unfold sS5
    rw [zv_other n6, s4 n n5]
  · show sS7 x H 66 y = _
    rw [e7 66 (by omega)]
    show (if y = x then max (sS4 x H 66 x) (sS4 x H 65 x) else sS4 x H 66 y) = _
    rw [F66, F65]
  · show sS7 x H 68 i = _
    rw [e7 68 (by omega)]
    show (if i = 5 * x + H 63 x then zmk (zabd (sS5 x H) x) (nP H) else sS4 x H 68 i) = _
    rw [F68, ha, eb, np]
  · show sS7 x H 64 y = _
    unfold sS7
    by_cases c : H 63 x < 4
    · rw [if_pos c, F59, e6, ha]
      show (if y = x then _ else sS4 x H 64 y) = _
      rw [F64]
      by_cases e : y = x
      · rw [if_pos e, if_pos (show a < 4 ∧ y = x from ⟨by omega, e⟩)]
      · rw [if_neg e, if_neg (show ¬ (a < 4 ∧ y = x) from fun z => e z.2)]
    · rw [if_neg c, if_neg (show ¬ (a < 4 ∧ y = x) by omega)]
      show sS4 x H 64 y = _
      rw [F64]
  · show (if y = x then H 63 x + 1 else sS7 x H 63 y) = _
    rw [e7 63 (by omega), ha]
    show (if y = x then a + 1 else sS4 x H 63 y) = _
    rw [F63]
  · show sS7 x H 67 i = _
    rw [e7 67 (by omega)]
    show sS4 x H 67 i = _
    rw [F67, ha]
