/-! Ranges of what a day comes to -/
def dB (g : Nat → Int → Int) : Prop := ∀ p, (-4 ≤ g 69 p ∧ g 69 p < 12) ∧ (-4 ≤ g 70 p ∧ g 70 p ≤ 1900) ∧ (-4 ≤ g 71 p ∧ g 71 p ≤ 1900)
theorem dB.o {g : Nat → Int → Int} (q : dB g) {n : Nat} {j v : Int} (hn : n < 69 ∨ 71 < n) : dB (zv g n j v) := fun p => by
  rw [zv_other (by omega), zv_other (by omega), zv_other (by omega)]
  exact q p
theorem dB.s69 {g : Nat → Int → Int} (q : dB g) {j v : Int} (v0 : -4 ≤ v) (v1 : v < 12) : dB (zv g 69 j v) := fun p => by
  rw [zv_other (a := 70) (by omega), zv_other (a := 71) (by omega), zv_eq]
  have := q p
  split <;> omega
theorem dB.s70 {g : Nat → Int → Int} (q : dB g) {j v : Int} (v0 : -4 ≤ v) (v1 : v ≤ 1900) : dB (zv g 70 j v) := fun p => by
  rw [zv_other (a := 69) (by omega), zv_other (a := 71) (by omega), zv_eq]
  have := q p
  split <;> omega
theorem dB.s71 {g : Nat → Int → Int} (q : dB g) {j v : Int} (v0 : -4 ≤ v) (v1 : v ≤ 1900) : dB (zv g 71 j v) := fun p => by
  rw [zv_other (a := 69) (by omega), zv_other (a := 70) (by omega), zv_eq]
  have := q p
  split <;> omega
theorem dB_GO {h : Nat → Int → Int} {x : Int} (q : dB h) (m0 : 0 ≤ h 64 x) (m1 : h 64 x ≤ 1900) : ∀ c : Nat, dB (sGO x h c) ∧ (sGO x h c) 64 = h 64
  | 0 => ⟨q, rfl⟩
  | c + 1 => by
    obtain ⟨i1, i2⟩ := dB_GO q m0 m1 c
    show dB (sGO1 x c (sGO x h c)) ∧ (sGO1 x c (sGO x h c)) 64 = h 64
    generalize sGO x h c = g at *
    unfold sGO1
    split
    · exact ⟨((i1.s71 (by rw [i2]; omega) (by rw [i2]; exact m1)).o (by omega)).o (by omega), i2⟩
    · exact ⟨i1, i2⟩
theorem dB_Try {g : Nat → Int → Int} {x p : Int} (q : dB g) (m0 : 0 ≤ g 64 x) (m1 : g 64 x ≤ 1900) (x0 : 0 ≤ x) (x1 : x < 12) : dB (sTry x p g) ∧ (sTry x p g) 64 = g 64 := by
  have q2 : ∀ c : Prop, [Decidable c] → dB (if c then zv g 74 p (g 74 p + 1) else g) ∧ (if c then zv g 74 p (g 74 p + 1) else g) 64 = g 64 := by
    intro c _
    split
    · exact ⟨q.o (by omega), rfl⟩
    · exact ⟨q, rfl⟩
  unfold sTry
  split
  · exact ⟨(((q.s69 (by omega) x1).s70 (by omega) m1).o (by omega)).o (by omega), rfl⟩
  · split
    · exact q2 _
    · exact ⟨((q2 _).1.o (by omega)).o (by omega), (q2 _).2⟩
theorem dB_Ta {g : Nat → Int → Int} {x : Int} {a : Int → Int} (q : dB g) (m0 : 0 ≤ g 64 x) (m1 : g 64 x ≤ 1900) (x0 : 0 ≤ x) (x1 : x < 12) : ∀ c : Nat, dB (zfo (fun j s => sTry x (a j) s) g c) ∧ (zfo (fun j s => sTry x (a j) s) g c) 64 = g 64
  | 0 => ⟨q, rfl⟩
  | c + 1 => by
    obtain ⟨i1, i2⟩ := dB_Ta (a := a) q m0 m1 x0 x1 c
    have z := dB_Try (p := a c) i1 (by rw [i2]; exact m0) (by rw [i2]; exact m1) x0 x1
    exact ⟨z.1, z.2.trans i2⟩
theorem dB_stop {h : Nat → Int → Int} {x : Int} (q : dB h) (m0 : 0 ≤ h 64 x) (m1 : h 64 x ≤ 1900) (x0 : 0 ≤ x) (x1 : x < 12) : dB (sStop x h) := by
  have b2 : dB (sS2 x h) ∧ sS2 x h 64 = h 64 := dB_GO (h := zv (zv h 59 19 0) 67 (5 * x + h 63 x) (h 64 x)) ((q.o (by omega)).o (by omega)) m0 m1 (nP h)
  have b3 : dB (sS3 x h) := fun p => by
    unfold sS3
    rw [zar_other (by omega), zar_other (by omega), zar_other (by omega)]
    exact b2.1 p
  have e3 : sS3 x h 64 = h 64 := (zar_other (by omega)).trans b2.2
  have b4 : dB (sS4 x h) := by
    unfold sS4
    split
    · exact (dB_Ta b3 (by rw [e3]; exact m0) (by rw [e3]; exact m1) x0 x1 _).1
    · exact b2.1
  have b6 : dB (sS6 x h) := (b4.o (by omega)).o (by omega)
  unfold sStop
  refine dB.o ?_ (by omega)
  unfold sS7
  split
  · exact b6.o (by omega)
  · exact b6
theorem dB_evs : ∀ (c : Nat) {h : Nat → Int → Int}, dZ h → dB h → dB (sEvs c h)
  | 0, _, _, q => q
  | c + 1, h, hd, q => by
    have n0 := hd.1.1.1
    have n1 := hd.1.1.2.1
    have e9 : (nT h : Int) = 3 * h 60 0 := by unfold nT; omega
    have i := sNx_in h (nT h)
    unfold sEvs
    generalize sNx h (nT h) = x at *
    by_cases z : x < 0
    · rw [if_pos z]
      exact q
    · rw [if_neg z]
      obtain ⟨hx, -, hz⟩ := dZ_stop hd (x := x) (by omega) (by omega) (by omega)
      obtain ⟨⟨s0, s1⟩, ⟨t0, t1⟩, -⟩ := hx
      exact dB_evs c hz (dB_stop q t0 (by omega) (by omega) (by omega))
theorem dB_dN {p : Int → Int} {w dd : Int} (hp : pOK p) (hw : zb w) : dB (dN p w dd) := by
  have hd := dC_ok (dd := dd) hp hw
  refine dB_evs 61 (dZ_beg hd).1 (fun j => ?_)
  have b9 : ∀ m : Nat, 69 ≤ m → m ≤ 71 → sBeg (dC p w dd) m j = -4 ∨ sBeg (dC p w dd) m j = 0 := fun m m0 m1 => by
    unfold sBeg sB2
    split
    · exact Or.inl rfl
    · rw [sB1_lo (by omega)]
      unfold dC
      rw [if_neg (by omega), if_neg (by omega), if_neg (by omega)]
      exact Or.inr rfl
  have e1 := b9 69 (by omega) (by omega)
  have e2 := b9 70 (by omega) (by omega)
  have e3 := b9 71 (by omega) (by omega)
  omega
theorem dA_in {p : Int → Int} {w dd t : Int} (hp : pOK p) (hw : zb w) : 0 ≤ dA p w dd t ∧ dA p w dd t ≤ 2000 := by
  have := dB_dN (dd := dd) hp hw t
  unfold dA zAr
  split <;> omega
theorem dMi_in {p : Int → Int} {w dd : Int} (hp : pOK p) (hw : zb w) : 0 ≤ dMi p w dd ∧ dMi p w dd ≤ 16000 := by
  have h0 := hp.2.2.2.2.2.2.2.2.2.2.2.2.1
  have h1 := hp.2.2.2.2.2.2.2.2.2.2.2.2.2.1
  have := zsum_le (f := zAr (dN p w dd)) (B := 2000) (fun t => dA_in (dd := dd) hp hw) (p 6).toNat
  unfold dMi
  omega
theorem dMn_in {p : Int → Int} {w dd : Int} (hp : pOK p) : 0 ≤ dMn p w dd ∧ dMn p w dd ≤ p 6 := by
  have h0 := hp.2.2.2.2.2.2.2.2.2.2.2.2.1
  have h1 := hp.2.2.2.2.2.2.2.2.2.2.2.2.2.1
  have := zsum_le (f := zOn (dN p w dd)) (B := 1) (fun t => by unfold zOn; split <;> omega) (p 6).toNat
  unfold dMn
  omega
