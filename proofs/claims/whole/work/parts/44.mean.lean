/-! gcd, mean: whole numbers of 64 bits -/
def lI (z : Int) : Int64 := Int64.ofInt z
theorem lI_toInt {a : Int} (h : zb a) : (lI a).toInt = a := by
  obtain ⟨h0, h1⟩ := h
  unfold lI
  exact Int64.toInt_ofInt_of_le (by omega) (by omega)
theorem iI_l {a : Int} (h : zb a) : (iI a).toInt64 = lI a := by
  apply Int64.toInt_inj.mp
  rw [Int32.toInt_toInt64, iI_toInt h, lI_toInt h]
theorem lI_div {a b : Int} (ha : zb a) (hb : zb b) (h0 : 0 ≤ a) (h1 : 0 < b) : lI a / lI b = lI (a / b) := by
  have h2 : 0 ≤ a / b := Int.ediv_nonneg h0 (by omega)
  have h3 : a / b ≤ a := Int.ediv_le_self b h0
  apply Int64.toInt_inj.mp
  rw [Int64.toInt_div_of_ne_right, lI_toInt ha, lI_toInt hb, lI_toInt, Int.tdiv_eq_ediv_of_nonneg h0]
  · unfold zb at *
    omega
  · intro e
    have := congrArg Int64.toInt e
    rw [lI_toInt hb] at this
    have e2 : (-1 : Int64).toInt = -1 := by decide
    omega
theorem lI_rem {a b : Int} (ha : zb a) (hb : zb b) (h0 : 0 ≤ a) (h1 : 0 < b) : lI a - lI a / lI b * lI b = lI (a % b) := by
  rw [lI_div ha hb h0 h1]
  unfold lI
  rw [← Int64.ofInt_mul, ← Int64.ofInt_sub]
  have := Int.emod_add_mul_ediv a b
  rw [Int.mul_comm] at this
  congr 1
  omega
theorem lI_ne {a : Int} (h : zb a) (h0 : ¬ a = 0) : ¬ lI a = 0 := fun e => by
  have := congrArg Int64.toInt e
  rw [lI_toInt h] at this
  exact h0 this
theorem lI_cmp0 {a : Int} (h : zb a) (h0 : 0 ≤ a) : lg_cmp (lI a) 0 = iI (if a = 0 then 0 else 1) := by
  unfold lg_cmp
  by_cases e : a = 0
  · rw [if_pos e, e]
    decide +kernel
  · have g : lI a > 0 := by
      show (0 : Int64) < lI a
      rw [Int64.lt_iff_toInt_lt, lI_toInt h]
      show (0 : Int) < a
      omega
    rw [if_neg e, if_pos g]
    decide +kernel
theorem zgcd {x y : Nat} : Nat.gcd y (x % y) = Nat.gcd x y := by
  rw [Nat.gcd_comm y (x % y), ← Nat.gcd_rec, Nat.gcd_comm]
theorem lp_gcd {E : zE} {d : Nat} {k : Nat → Nat × Nat} {h : Nat → Int → Int} {r : Nat → Int → Option Nat} {l : Nat → Nat → Int64} {n : Nat} {Q : zQ} {A B : Int} {G : Nat} (hQ : Q (some (.long (lI (G : Int)))) (zJ (k, h, r, l, n))) : ∀ c : Nat, ∀ (x y : Nat) (u v : Option Value), y < c → x < 1000000 → y < 1000000 → Nat.gcd x y = G → zGo E d M_X12_gcd 0 0 Q 6 ([some (.long (lI A)), none, some (.long (lI B)), none, some (.long (lI (x : Int))), none, some (.long (lI (y : Int))), none, u, v], [], zJ (k, h, r, l, n), 0, 0) := by
  have ok := ok_X12_gcd
  intro c
  induction c with
  | zero =>
    intros
    omega
  | succ c ih =>
    intro x y u v hc hx hy hG
    refine s_ldL6 ok rfl ?_
    refine s_cl ok rfl ?_
    refine s_lcmp ok rfl ?_
    rw [lI_cmp0 ⟨by omega, by omega⟩ (by omega)]
    refine s_if_eq ok rfl (by split <;> exact ⟨by omega, by omega⟩) (fun c10 => ?_) (fun c10 => ?_)
    · have c10b : y = 0 := by by_cases z : y = 0; exact z; rw [if_neg (by omega)] at c10; omega
      subst c10b
      rw [Nat.gcd_zero_right] at hG
      subst hG
      refine s_ldL4 ok rfl ?_
      refine s_retL ok rfl hQ
    · have c10b : ¬ y = 0 := fun e => by rw [e] at c10; exact c10 rfl
      refine s_ldL4 ok rfl ?_
      refine s_ldL6 ok rfl ?_
      refine s_ldv ok rfl (lI_ne ⟨by omega, by omega⟩ (by omega)) (lI_rem ⟨by omega, by omega⟩ ⟨by omega, by omega⟩ (by omega) (by omega)) ?_
      rw [show (x : Int) % (y : Int) = ((x % y : Nat) : Int) by omega]
      refine s_stL8 ok rfl rfl ?_
      refine s_ldL6 ok rfl ?_
      refine s_stL4 ok rfl rfl ?_
      refine s_ldL8 ok rfl ?_
      refine s_stL6 ok rfl rfl ?_
      refine s_goto ok rfl ?_
      have ml : x % y < y := Nat.mod_lt _ (by omega)
      exact ih y (x % y) _ _ (by omega) (by omega) (by omega) (by rw [zgcd]; exact hG)
theorem ct_gcd {E : zE} {d : Nat} {k : Nat → Nat × Nat} {h : Nat → Int → Int} {r : Nat → Int → Option Nat} {l : Nat → Nat → Int64} {n : Nat} {x y : Nat} (hx : x < 1000000) (hy : y < 1000000) : zCT E d M_X12_gcd [.long (lI (x : Int)), .long (lI (y : Int))] (zJ (k, h, r, l, n)) 0 0 (zV (.long (lI ((Nat.gcd x y : Nat) : Int))) (zJ (k, h, r, l, n))) := by
  have ok := ok_X12_gcd
  refine zCT_of pn_X12_gcd (Nat.le_of_ble_eq_true rfl) ?_
  show zGo _ _ _ _ _ _ 0 ([some (.long (lI (x : Int))), none, some (.long (lI (y : Int))), none, none, none, none, none, none, none], [], _, _, _)
  refine s_ldL0 ok rfl ?_
  refine s_stL4 ok rfl rfl ?_
  refine s_ldL2 ok rfl ?_
  refine s_stL6 ok rfl rfl ?_
  exact lp_gcd (E := E) (d := d) (k := k) (r := r) (l := l) (n := n) (h := h) (Q := zV (.long (lI ((Nat.gcd x y : Nat) : Int))) (zJ (k, h, r, l, n))) ⟨rfl, rfl⟩ (y + 1) x y none none (by omega) hx hy rfl
theorem ct_gcdI {E : zE} {d : Nat} {k : Nat → Nat × Nat} {h : Nat → Int → Int} {r : Nat → Int → Option Nat} {l : Nat → Nat → Int64} {n : Nat} {x y : Int} (x0 : 0 ≤ x) (hx : x < 1000000) (y0 : 0 ≤ y) (hy : y < 1000000) : zCT E d M_X12_gcd [.long (lI x), .long (lI y)] (zJ (k, h, r, l, n)) 0 0 (zV (.long (lI ((Nat.gcd x.toNat y.toNat : Nat) : Int))) (zJ (k, h, r, l, n))) := by
  have e := ct_gcd (E := E) (d := d) (k := k) (h := h) (r := r) (l := l) (n := n) (x := x.toNat) (y := y.toNat) (by omega) (by omega)
  rw [Int.toNat_of_nonneg x0, Int.toNat_of_nonneg y0] at e
  exact e
theorem sTen_in {A : Int → Int} : ∀ c : Nat, (∀ m : Int, 0 ≤ m → m < c → 0 ≤ A m ∧ A m ≤ 2000) → (0 ≤ (sTen A c).1 ∧ (sTen A c).1 ≤ c) ∧ (0 ≤ (sTen A c).2 ∧ (sTen A c).2 ≤ 2000 * c) ∧ ((sTen A c).1 = 0 → (sTen A c).2 = 0)
  | 0, _ => ⟨⟨Int.le_refl _, Int.le_refl _⟩, ⟨Int.le_refl _, Int.le_refl _⟩, fun _ => rfl⟩
  | c + 1, hA => by
    obtain ⟨i1, i2, i3⟩ := sTen_in c (fun m m0 m1 => hA m m0 (by omega))
    have j := hA c (by omega) (by omega)
    unfold sTen
    split
    · exact ⟨by omega, by omega, i3⟩
    · dsimp only
      exact ⟨by omega, by omega, by omega⟩
/-- a side of the fraction in its least terms -/
def sMe (a : Int) (T : Int × Int) : Int := if T.2 = 0 then a else (if a = 0 then T.2 else T.1) / ((Nat.gcd T.2.toNat T.1.toNat : Nat) : Int)
theorem ct_mean {E : zE} {d : Nat} {k : Nat → Nat × Nat} {h : Nat → Int → Int} {r : Nat → Int → Option Nat} {l : Nat → Nat → Int64} {n : Nat} {p : Int → Int} {w dd : Int} (ep : h 60 = p) (ew : h 59 17 = w) (ed : h 59 18 = dd) (hd : dP h) (h2 : zb dd) {t a : Int} (zt : zb t) (za : zb a) (hb : ∀ s : Int, 0 ≤ s → s < 8 → pBa p s ≤ 300) : zCT E (d + 9) M_X12_mean [.ref 59, .int (iI (t)), .int (iI (a))] (zJ (k, h, r, l, n)) 0 0 (zVx (.long (if (0 ≤ t ∧ t < p 6) ∧ (0 ≤ a ∧ a ≤ 1) then lI (sMe a (sTen (lA p w dd t) 10)) else -1000000001)) (zG k r l n (dL h))) := by
  have ok := ok_X12_mean
  refine zCT_of pn_X12_mean (Nat.le_of_ble_eq_true rfl) ?_
  show zGo _ _ _ _ _ _ 0 ([some (.ref 59), some (.int (iI (t))), some (.int (iI (a)))], [], _, _, _)
  subst ep
  subst ew
  subst ed
  refine s_ldA0 ok rfl ?_
  refine s_ldI1 ok rfl ?_
  refine s_callV ok rfl rfl rfl rfl rfl rfl (ct_isTraveller hd.1 zt) ?_
  refine s_if_eq ok rfl zif01 (fun c5 => ?_) (fun c5 => ?_)
  · refine s_cl ok rfl ?_
    refine s_retL ok rfl ⟨congrArg (fun z => some (Value.long z)) (if_neg (fun q => by first | exact zif_f c14 q.2 | exact zif_f c5 q.1)).symm, _, rfl, dL.rf hd⟩
  · refine s_ldI2 ok rfl ?_
    refine s_ci ok rfl ?_
    refine s_ci ok rfl ?_
    refine s_callS ok rfl rfl rfl rfl (ct_isIn za ⟨by omega, by omega⟩ ⟨by omega, by omega⟩) ?_
    refine s_if_eq ok rfl zif01 (fun c14 => ?_) (fun c14 => ?_)
    · refine s_cl ok rfl ?_
      refine s_retL ok rfl ⟨congrArg (fun z => some (Value.long z)) (if_neg (fun q => by first | exact zif_f c14 q.2 | exact zif_f c5 q.1)).symm, _, rfl, dL.rf hd⟩
    · have yt := zif_t c5
      have ya := zif_t c14
      have t1 : t < 8 := by have := hd.1.2.2.2.2.2.2.2.2.2.2.2.2.2.1; omega
      refine s_ldA0 ok rfl ?_
      refine s_ldI1 ok rfl ?_
      refine s_callVvx ok rfl rfl rfl rfl rfl rfl (ct_tens (h := h) rfl rfl rfl hd h2 yt.1 yt.2 (hb t yt.1 t1)) (fun σ23 hσ23 => ?_)
      obtain ⟨g23, rfl, hg23⟩ := hσ23
      obtain ⟨f23, q24, q25⟩ := hg23
      have rT := sTen_in (A := (lA (h 60) (h 59 17) (h 59 18) t)) 10 (fun m m0 m1 => by unfold lA; exact dA_in (lA_zb hd.1 hd.2.2.2.2 yt.1 t1 (hb t yt.1 t1) (dd := h 59 18) m0 (by omega)).2 hd.2.2.2.2)
      generalize sTen (lA (h 60) (h 59 17) (h 59 18) t) 10 = T at *
      obtain ⟨T1, T2⟩ := T
      dsimp only at q24 q25 rT
      refine s_ldA0 ok rfl ?_
      refine s_getJ 25 ok rfl rfl rfl rfl ?_
      rw [q25]
      refine s_if_eq ok rfl (by first | exact hb _ _ | exact ⟨by omega, by omega⟩) (fun c30 => ?_) (fun c30 => ?_)
      · refine s_ldI2 ok rfl ?_
        refine s_i2l ok rfl ?_
        rw [iI_l za]
        refine s_retL ok rfl ⟨congrArg (fun z => some (Value.long z)) ((if_pos (And.intro yt ya)).trans (congrArg lI (if_pos c30))).symm, _, rfl, f23⟩
      · refine s_ldI2 ok rfl ?_
        refine s_if_eq ok rfl za (fun c37 => ?_) (fun c37 => ?_)
        · refine s_ldA0 ok rfl ?_
          refine s_getJ 25 ok rfl rfl rfl rfl ?_
          refine s_goto ok rfl ?_
          first | rw [q25] | rw [q24]
          refine s_i2l ok rfl ?_
          rw [iI_l ⟨by omega, by omega⟩]
          refine s_ldA0 ok rfl ?_
          refine s_getJ 25 ok rfl rfl rfl rfl ?_
          refine s_i2l ok rfl ?_
          rw [q25, iI_l ⟨by omega, by omega⟩]
          refine s_ldA0 ok rfl ?_
          refine s_getJ 24 ok rfl rfl rfl rfl ?_
          refine s_i2l ok rfl ?_
          rw [q24, iI_l ⟨by omega, by omega⟩]
          refine s_callS ok rfl rfl rfl rfl (ct_gcdI (x := T2) (y := T1) (by omega) (by omega) (by omega) (by omega)) ?_
          have gp : 0 < Nat.gcd T2.toNat T1.toNat := Nat.gcd_pos_of_pos_left _ (by omega)
          have gl : Nat.gcd T2.toNat T1.toNat ≤ T2.toNat := Nat.gcd_le_left _ (by omega)
          refine s_ldv ok rfl (lI_ne ⟨by omega, by omega⟩ (by omega)) (lI_div ⟨by omega, by omega⟩ ⟨by omega, by omega⟩ (by omega) (by omega)) ?_
          refine s_retL ok rfl ⟨congrArg (fun z => some (Value.long z)) (((if_pos (And.intro yt ya)).trans (congrArg lI ((if_neg c30).trans (by first | rw [if_pos c37] | rw [if_neg c37])))).symm), _, rfl, f23⟩
        · refine s_ldA0 ok rfl ?_
          refine s_getJ 24 ok rfl rfl rfl rfl ?_
          first | rw [q25] | rw [q24]
          refine s_i2l ok rfl ?_
          rw [iI_l ⟨by omega, by omega⟩]
          refine s_ldA0 ok rfl ?_
          refine s_getJ 25 ok rfl rfl rfl rfl ?_
          refine s_i2l ok rfl ?_
          rw [q25, iI_l ⟨by omega, by omega⟩]
          refine s_ldA0 ok rfl ?_
          refine s_getJ 24 ok rfl rfl rfl rfl ?_
          refine s_i2l ok rfl ?_
          rw [q24, iI_l ⟨by omega, by omega⟩]
          refine s_callS ok rfl rfl rfl rfl (ct_gcdI (x := T2) (y := T1) (by omega) (by omega) (by omega) (by omega)) ?_
          have gp : 0 < Nat.gcd T2.toNat T1.toNat := Nat.gcd_pos_of_pos_left _ (by omega)
          have gl : Nat.gcd T2.toNat T1.toNat ≤ T2.toNat := Nat.gcd_le_left _ (by omega)
          refine s_ldv ok rfl (lI_ne ⟨by omega, by omega⟩ (by omega)) (lI_div ⟨by omega, by omega⟩ ⟨by omega, by omega⟩ (by omega) (by omega)) ?_
          refine s_retL ok rfl ⟨congrArg (fun z => some (Value.long z)) (((if_pos (And.intro yt ya)).trans (congrArg lI ((if_neg c30).trans (by first | rw [if_pos c37] | rw [if_neg c37])))).symm), _, rfl, f23⟩
