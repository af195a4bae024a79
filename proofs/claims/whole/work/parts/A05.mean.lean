/-! the class: mean -/
theorem dA_pos {p : Int → Int} {t : Int} (hp : pOK p) (hft : ∀ u : Int, 0 ≤ u → u < p 6 → pFr p u < pTo p u) (t0 : 0 ≤ t) (t1 : t < p 6) : 1 ≤ dA p (-4) 3 t := by
  have q := (dQy_dN (dd := 3) (w := -4) hp ⟨by omega, by omega⟩ hft).2 t t0 t1
  unfold dA zAr
  split
  · omega
  · exact (q.2.1 (by omega)).1
theorem lA_pos {p : Int → Int} {t m : Int} (hs : pS p) (t0 : 0 ≤ t) (t1 : t < p 6) (m0 : 0 ≤ m) (m1 : m ≤ 60) : 1 ≤ lA p (-4) 3 t m := by
  have hp := hs.1
  have b300 := hs.2.1 t t0 (by have := hp.2.2.2.2.2.2.2.2.2.2.2.2.2.1; omega)
  obtain ⟨-, -, -, -, ⟨ba0, -⟩⟩ := hp.2.2.2.2.2.2.2.2.2.2.2.2.2.2.2.2 t t0 (by have := hp.2.2.2.2.2.2.2.2.2.2.2.2.2.1; omega)
  refine dA_pos (pOK_base hp t0 (by omega) (by omega)) (fun u u0 u1 => ?_) t0 (by rw [show (zp p (19 + 5 * t + 4) (pBa p t + m)) 6 = p 6 from zp_ne (by omega)]; exact t1)
  rw [show pFr (zp p (19 + 5 * t + 4) (pBa p t + m)) u = pFr p u from zp_ne (by omega), show pTo (zp p (19 + 5 * t + 4) (pBa p t + m)) u = pTo p u from zp_ne (by omega)]
  exact hs.2.2.2.1 u u0 (by rw [show (zp p (19 + 5 * t + 4) (pBa p t + m)) 6 = p 6 from zp_ne (by omega)] at u1; exact u1)
theorem sTen_pos {A : Int → Int} : ∀ c : Nat, (∀ m : Int, 0 ≤ m → m < c → 1 ≤ A m ∧ A m ≤ 2000) → (sTen A c).1 ≤ (sTen A c).2
  | 0, _ => Int.le_refl _
  | c + 1, hA => by
    have i := sTen_pos c (fun m m0 m1 => hA m m0 (by omega))
    have a := hA (c : Int) (by omega) (by omega)
    unfold sTen
    split
    · exact i
    · show (sTen A c).1 + 1 ≤ (sTen A c).2 + A c
      omega
theorem lp_least {E : zE} {d : Nat} {k : Nat → Nat × Nat} {h : Nat → Int → Int} {r : Nat → Int → Option Nat} {l : Nat → Nat → Int64} {n : Nat} {s : Int} {a b : Nat} (s0 : 0 ≤ s) (s1 : s < 1000000) (a1 : a < 1000000) (b0 : 1 ≤ b) (b1 : b < 1000000) : ∀ m : Nat, 1 ≤ m → m ≤ b → (∀ e : Nat, m < e → ¬ (e ∣ a ∧ e ∣ b)) → zGo E d M_X11_inLeastTerms 0 0 (zV (.int (iI (s / ((Nat.gcd a b : Nat) : Int)))) (zJ (k, h, r, l, n))) 2 ([some (.int (iI (s))), some (.int (iI ((a : Int)))), some (.int (iI ((b : Int)))), some (.int (iI ((m : Int))))], [], zJ (k, h, r, l, n), 0, 0) := by
  have ok := ok_X11_inLeastTerms
  have gp : 0 < Nat.gcd a b := Nat.gcd_pos_of_pos_right a (by omega)
  intro m
  induction m with
  | zero =>
    intros
    omega
  | succ m ih =>
    intro m1 m2 hm
    have back : ¬ ((m + 1) ∣ a ∧ (m + 1) ∣ b) → 1 ≤ m → zGo E d M_X11_inLeastTerms 0 0 (zV (.int (iI (s / ((Nat.gcd a b : Nat) : Int)))) (zJ (k, h, r, l, n))) 23 ([some (.int (iI (s))), some (.int (iI ((a : Int)))), some (.int (iI ((b : Int)))), some (.int (iI (((m + 1 : Nat) : Int))))], [], zJ (k, h, r, l, n), 0, 0) := fun no m9 => by
      refine s_inc3 ok rfl rfl ?_
      refine s_goto ok rfl ?_
      rw [show ((m + 1 : Nat) : Int) + -1 = (m : Int) by omega]
      exact ih m9 (by omega) (fun e he => by
        by_cases q : e = m + 1
        · rw [q]
          exact no
        · exact hm e (by omega))
    refine s_ldI3 ok rfl ?_
    refine s_ci ok rfl ?_
    refine s_c_le ok rfl ⟨by omega, by omega⟩ ⟨by omega, by omega⟩ (fun c4 => ?_) (fun c4 => ?_)
    · refine s_ldI0 ok rfl ?_
      have eg : Nat.gcd a b = 1 := by
        by_cases q : m + 1 < Nat.gcd a b
        · exact absurd ⟨Nat.gcd_dvd_left a b, Nat.gcd_dvd_right a b⟩ (hm _ q)
        · omega
      exact s_retI ok rfl ⟨congrArg (fun z => some (Value.int (iI z))) (by rw [eg]; exact (Int.ediv_one s).symm), rfl⟩
    · refine s_ldI1 ok rfl ?_
      refine s_ldI3 ok rfl ?_
      refine s_rem ok rfl ⟨by omega, by omega⟩ ⟨by omega, by omega⟩ (by omega) (by omega) ?_
      refine s_if_eq ok rfl (by rw [show (a : Int) % ((m + 1 : Nat) : Int) = ((a % (m + 1) : Nat) : Int) from rfl]; have := Nat.mod_lt a (show 0 < m + 1 by omega); exact ⟨by omega, by omega⟩) (fun c10 => ?_) (fun c10 => ?_)
      · have da : (m + 1) ∣ a := Nat.dvd_of_mod_eq_zero (by have z : (a : Int) % ((m + 1 : Nat) : Int) = ((a % (m + 1) : Nat) : Int) := rfl; omega)
        refine s_ldI2 ok rfl ?_
        refine s_ldI3 ok rfl ?_
        refine s_rem ok rfl ⟨by omega, by omega⟩ ⟨by omega, by omega⟩ (by omega) (by omega) ?_
        refine s_if_eq ok rfl (by rw [show (b : Int) % ((m + 1 : Nat) : Int) = ((b % (m + 1) : Nat) : Int) from rfl]; have := Nat.mod_lt b (show 0 < m + 1 by omega); exact ⟨by omega, by omega⟩) (fun c16 => ?_) (fun c16 => ?_)
        · have db : (m + 1) ∣ b := Nat.dvd_of_mod_eq_zero (by have z : (b : Int) % ((m + 1 : Nat) : Int) = ((b % (m + 1) : Nat) : Int) := rfl; omega)
          have dg := Nat.le_of_dvd gp (Nat.dvd_gcd da db)
          have eg : Nat.gcd a b = m + 1 := by
            by_cases q : m + 1 < Nat.gcd a b
            · exact absurd ⟨Nat.gcd_dvd_left a b, Nat.gcd_dvd_right a b⟩ (hm _ q)
            · omega
          refine s_ldI0 ok rfl ?_
          refine s_ldI3 ok rfl ?_
          refine s_div ok rfl ⟨by omega, by omega⟩ ⟨by omega, by omega⟩ (by omega) (by omega) ?_
          exact s_retI ok rfl ⟨congrArg (fun z => some (Value.int (iI z))) (by rw [eg]), rfl⟩
        · exact back (fun q => by
            first
              | (have z : (a : Int) % ((m + 1 : Nat) : Int) = ((a % (m + 1) : Nat) : Int) := rfl
                 have := Nat.mod_eq_zero_of_dvd q.1
                 omega)
              | (have z : (b : Int) % ((m + 1 : Nat) : Int) = ((b % (m + 1) : Nat) : Int) := rfl
                 have := Nat.mod_eq_zero_of_dvd q.2
                 omega)) (by omega)
      · exact back (fun q => by
          first
            | (have z : (a : Int) % ((m + 1 : Nat) : Int) = ((a % (m + 1) : Nat) : Int) := rfl
               have := Nat.mod_eq_zero_of_dvd q.1
               omega)
            | (have z : (b : Int) % ((m + 1 : Nat) : Int) = ((b % (m + 1) : Nat) : Int) := rfl
               have := Nat.mod_eq_zero_of_dvd q.2
               omega)) (by omega)
theorem ct_terms {E : zE} {d : Nat} {k : Nat → Nat × Nat} {h : Nat → Int → Int} {r : Nat → Int → Option Nat} {l : Nat → Nat → Int64} {n : Nat} {s a b : Int} (s0 : 0 ≤ s) (s1 : s < 1000000) (a0 : 0 ≤ a) (a1 : a < 1000000) (b0 : 1 ≤ b) (b1 : b < 1000000) : zCT E d M_X11_inLeastTerms [.int (iI s), .int (iI a), .int (iI b)] (zJ (k, h, r, l, n)) 0 0 (zV (.int (iI (s / ((Nat.gcd a.toNat b.toNat : Nat) : Int)))) (zJ (k, h, r, l, n))) := by
  have ok := ok_X11_inLeastTerms
  refine zCT_of pn_X11_inLeastTerms (Nat.le_of_ble_eq_true rfl) ?_
  show zGo _ _ _ _ _ _ 0 ([some (.int (iI (s))), some (.int (iI (a))), some (.int (iI (b))), none], [], _, _, _)
  obtain ⟨A, rfl⟩ : ∃ A : Nat, a = A := ⟨a.toNat, by omega⟩
  obtain ⟨B, rfl⟩ : ∃ B : Nat, b = B := ⟨b.toNat, by omega⟩
  refine s_ldI2 ok rfl ?_
  refine s_stI3 ok rfl rfl ?_
  exact lp_least s0 s1 (by omega) (by omega) (by omega) B (by omega) (Nat.le_refl _) (fun e he q => by
    have := Nat.le_of_dvd (by omega) q.2
    omega)
theorem lp_mean11 {E : zE} {d : Nat} {k : Nat → Nat × Nat} {h : Nat → Int → Int} {r : Nat → Int → Option Nat} {l : Nat → Nat → Int64} {n : Nat} {p : Int → Int} (hs : pS p) (hR : cR 4 5 6 7 8 9 10 11 12 13 k h r n p (-4)) {t : Int} (t0 : 0 ≤ t) (t1 : t < p 6) {a : Int} (a0 : 0 ≤ a) (a1 : a ≤ 1) : ∀ c : Nat, ∀ (m : Nat) (g : Nat → Int → Int) (r9 : Nat → Int → Option Nat) (x : Int) (u : Option Value), (0 ≤ x ∧ x ≤ 360) → znl u = true → cT h g ∧ cR 15 16 17 18 19 20 21 22 23 24 k g r9 n (zp p (19 + 5 * t + 4) x) (-4) ∧ (∀ q, ¬ q = 16 → r9 q = r q) → 10 < m + c → m ≤ 10 → zGo E (d + 10) M_X11_mean 0 0 (zVx (.long (lI (sMe a (sTen (lA p (-4) 3 t) 10)))) (fun s => ∃ g r9, s = zJ (k, g, r9, l, n) ∧ cT h g ∧ (∀ q, ¬ q = 16 → r9 q = r q))) 43 ([some (.ref 3), some (.int (iI (t))), some (.int (iI (a))), some (.int (iI ((sTen (lA p (-4) 3 t) m).1))), some (.int (iI ((sTen (lA p (-4) 3 t) m).2))), some (.int (iI ((m : Int)))), u], [], zJ (k, g, r9, l, n), 0, 0) := by
  have ok := ok_X11_mean
  intro c
  induction c with
  | zero =>
    intros
    omega
  | succ c ih =>
    intro m g r9 x u ⟨x0, x1⟩ hu9 ⟨i1, i2, i3⟩ g1 g2
    have hp := hs.1
    have hft := hs.2.2.2.1
    have p60 := hp.2.2.2.2.2.2.2.2.2.2.2.2.1
    have p68 := hp.2.2.2.2.2.2.2.2.2.2.2.2.2.1
    have p00 := hp.1
    have p04 := hp.2.1
    have hf : ∀ q : Int, 0 ≤ q → q < p 6 → ¬ pFr p q = 4 := fun q q0 q1 => by have := pOf_gt hp q0 (by omega) (hft q q0 q1); omega
    obtain ⟨v8, hv8, wv8, h28, h38, h48⟩ := cR4_one hR t0 t1
    have b300 := hs.2.1 t t0 (by omega)
    obtain ⟨-, -, -, -, ⟨ba0, -⟩⟩ := hp.2.2.2.2.2.2.2.2.2.2.2.2.2.2.2.2 t t0 (by omega)
    refine s_ldI5 ok rfl ?_
    refine s_ci ok rfl ?_
    refine s_c_ge ok rfl ⟨by omega, by omega⟩ ⟨by omega, by omega⟩ (fun c47 => ?_) (fun c47 => ?_)
    · have em : m = 10 := by omega
      subst em
      have tin := sTen_in (A := lA p (-4) 3 t) 10 (fun m m0 m1 => dA_in (lA_zb (w := -4) (dd := 3) (m := m) hp ⟨by omega, by omega⟩ t0 (by omega) b300 (by omega) (by omega)).2 ⟨by omega, by omega⟩)
      have tps := sTen_pos (A := lA p (-4) 3 t) 10 (fun m m0 m1 => ⟨lA_pos hs t0 t1 m0 (by omega), (dA_in (lA_zb (w := -4) (dd := 3) (m := m) hp ⟨by omega, by omega⟩ t0 (by omega) b300 (by omega) (by omega)).2 ⟨by omega, by omega⟩).2⟩)
      obtain ⟨⟨ti1, ti2⟩, ⟨ti3, ti4⟩, ti5⟩ := tin
      refine s_ldI3 ok rfl ?_
      refine s_if_eq ok rfl ⟨by omega, by omega⟩ (fun c94 => ?_) (fun c94 => ?_)
      · refine s_ldI2 ok rfl ?_
        refine s_if_eq ok rfl ⟨by omega, by omega⟩ (fun c98 => ?_) (fun c98 => ?_)
        · refine s_cl ok rfl ?_
          refine s_goto ok rfl ?_
          have e2 := ti5 c94
          refine s_retL ok rfl ⟨congrArg (fun z => some (Value.long z)) ?_, g, r9, rfl, i1, i3⟩
          unfold sMe
          rw [if_pos e2]
          first
            | (rw [c98]; rfl)
            | (rw [show a = 1 by omega]; rfl)
        · refine s_cl ok rfl ?_
          have e2 := ti5 c94
          refine s_retL ok rfl ⟨congrArg (fun z => some (Value.long z)) ?_, g, r9, rfl, i1, i3⟩
          unfold sMe
          rw [if_pos e2]
          first
            | (rw [c98]; rfl)
            | (rw [show a = 1 by omega]; rfl)
      · refine s_ldI2 ok rfl ?_
        refine s_if_eq ok rfl ⟨by omega, by omega⟩ (fun c108 => ?_) (fun c108 => ?_)
        · refine s_ldI4 ok rfl ?_
          refine s_goto ok rfl ?_
          refine s_ldI4 ok rfl ?_
          refine s_ldI3 ok rfl ?_
          refine s_callS ok rfl rfl rfl rfl (ct_terms (by omega) (by omega) (by omega) (by omega) (by omega) (by omega)) ?_
          refine s_i2l ok rfl ?_
          first
            | (refine s_retL ok rfl ⟨congrArg (fun z => some (Value.long z)) ?_, g, r9, rfl, i1, i3⟩
               have q0 := Int.ediv_nonneg (a := (sTen (lA p (-4) 3 t) 10).2) (b := ((Nat.gcd (sTen (lA p (-4) 3 t) 10).2.toNat (sTen (lA p (-4) 3 t) 10).1.toNat : Nat) : Int)) (by omega) (by omega)
               have q1 := Int.ediv_le_self (a := (sTen (lA p (-4) 3 t) 10).2) ((Nat.gcd (sTen (lA p (-4) 3 t) 10).2.toNat (sTen (lA p (-4) 3 t) 10).1.toNat : Nat) : Int) (by omega)
               rw [iI_l ⟨by omega, by omega⟩]
               unfold sMe
               rw [if_neg (by omega)]
               rw [if_pos c108])
            | (refine s_retL ok rfl ⟨congrArg (fun z => some (Value.long z)) ?_, g, r9, rfl, i1, i3⟩
               have q0 := Int.ediv_nonneg (a := (sTen (lA p (-4) 3 t) 10).1) (b := ((Nat.gcd (sTen (lA p (-4) 3 t) 10).2.toNat (sTen (lA p (-4) 3 t) 10).1.toNat : Nat) : Int)) (by omega) (by omega)
               have q1 := Int.ediv_le_self (a := (sTen (lA p (-4) 3 t) 10).1) ((Nat.gcd (sTen (lA p (-4) 3 t) 10).2.toNat (sTen (lA p (-4) 3 t) 10).1.toNat : Nat) : Int) (by omega)
               rw [iI_l ⟨by omega, by omega⟩]
               unfold sMe
               rw [if_neg (by omega)]
               rw [if_neg c108])
        · refine s_ldI3 ok rfl ?_
          refine s_ldI4 ok rfl ?_
          refine s_ldI3 ok rfl ?_
          refine s_callS ok rfl rfl rfl rfl (ct_terms (by omega) (by omega) (by omega) (by omega) (by omega) (by omega)) ?_
          refine s_i2l ok rfl ?_
          first
            | (refine s_retL ok rfl ⟨congrArg (fun z => some (Value.long z)) ?_, g, r9, rfl, i1, i3⟩
               have q0 := Int.ediv_nonneg (a := (sTen (lA p (-4) 3 t) 10).2) (b := ((Nat.gcd (sTen (lA p (-4) 3 t) 10).2.toNat (sTen (lA p (-4) 3 t) 10).1.toNat : Nat) : Int)) (by omega) (by omega)
               have q1 := Int.ediv_le_self (a := (sTen (lA p (-4) 3 t) 10).2) ((Nat.gcd (sTen (lA p (-4) 3 t) 10).2.toNat (sTen (lA p (-4) 3 t) 10).1.toNat : Nat) : Int) (by omega)
               rw [iI_l ⟨by omega, by omega⟩]
               unfold sMe
               rw [if_neg (by omega)]
               rw [if_pos c108])
            | (refine s_retL ok rfl ⟨congrArg (fun z => some (Value.long z)) ?_, g, r9, rfl, i1, i3⟩
               have q0 := Int.ediv_nonneg (a := (sTen (lA p (-4) 3 t) 10).1) (b := ((Nat.gcd (sTen (lA p (-4) 3 t) 10).2.toNat (sTen (lA p (-4) 3 t) 10).1.toNat : Nat) : Int)) (by omega) (by omega)
               have q1 := Int.ediv_le_self (a := (sTen (lA p (-4) 3 t) 10).1) ((Nat.gcd (sTen (lA p (-4) 3 t) 10).2.toNat (sTen (lA p (-4) 3 t) 10).1.toNat : Nat) : Int) (by omega)
               rw [iI_l ⟨by omega, by omega⟩]
               unfold sMe
               rw [if_neg (by omega)]
               rw [if_neg c108])
    · refine s_ldA0 ok rfl ?_
      refine s_ldI1 ok rfl ?_
      refine s_ldA0 ok rfl ?_
      refine s_getF ok rfl rfl rfl rfl ?_
      refine s_getF ok rfl rfl rfl rfl ?_
      refine s_ldI1 ok rfl ?_
      refine s_iald ok rfl (by exact rfl) (by exact rfl) (by omega) (by omega) ?_
      have hq9 : pOK (zp p (19 + 5 * t + 4) x) := pOK_base hp t0 x0 x1
      have af := ct_arrivalFrom (E := E) (d := d) (k := k) (h := g) (r := r9) (l := l) (n := n) (q := zp p (19 + 5 * t + 4) x) hq9 (fun u u0 u1 => by
        rw [show pFr (zp p (19 + 5 * t + 4) x) u = pFr p u from zp_ne (by omega), show pTo (zp p (19 + 5 * t + 4) x) u = pTo p u from zp_ne (by omega)]
        exact hft u u0 (by rw [show (zp p (19 + 5 * t + 4) x) 6 = p 6 from zp_ne (by omega)] at u1; exact u1)) i2 (t := t) (v := pBa p t + (m : Int)) t0 (by rw [show (zp p (19 + 5 * t + 4) x) 6 = p 6 from zp_ne (by omega)]; exact t1) (by omega) (by omega)
      rw [zp_zp] at af
      rw [show g 8 t = pBa p t from (congrFun (i1 8 (by omega)) t).trans h48]
      refine s_ldI5 ok rfl ?_
      refine s_add ok rfl ?_
      refine s_callVx ok rfl rfl rfl rfl rfl rfl af (fun σ64 hσ64 => ?_)
      obtain ⟨g64, rfl, hg64⟩ := hσ64
      have in9 : lA p (-4) 3 t (m : Int) ≤ 2000 := (dA_in (dd := 3) (t := t) ((lA_zb (w := -4) (dd := 3) (m := (m : Int)) hp ⟨by omega, by omega⟩ t0 (by omega) b300 (by omega) (by omega))).2 (w := -4) ⟨by omega, by omega⟩).2
      rw [show dA (zp p (19 + 5 * t + 4) (pBa p t + (m : Int))) (-4) 3 t = lA p (-4) 3 t (m : Int) from rfl]
      refine s_stI6 ok rfl rfl ?_
      refine s_ldI6 ok rfl ?_
      refine s_ci ok rfl ?_
      refine s_c_ge ok rfl ((lA_zb (w := -4) (dd := 3) (m := (m : Int)) hp ⟨by omega, by omega⟩ t0 (by omega) b300 (by omega) (by omega))).1 ⟨by omega, by omega⟩ (fun c74 => ?_) (fun c74 => ?_)
      · refine s_inc5 ok rfl rfl ?_
        refine s_goto ok rfl ?_
        have es : sTen (lA p (-4) 3 t) (m + 1) = if (lA p (-4) 3 t) (m : Int) = 2000 then sTen (lA p (-4) 3 t) m else ((sTen (lA p (-4) 3 t) m).1 + 1, (sTen (lA p (-4) 3 t) m).2 + (lA p (-4) 3 t) (m : Int)) := rfl
        have nx := ih (m + 1) g64 r9 (pBa p t + (m : Int)) (some (.int (iI (lA p (-4) 3 t (m : Int))))) ⟨by omega, by omega⟩ rfl ⟨fun q hq => (hg64.1 q hq).trans (i1 q hq), hg64.2, i3⟩ (by omega) (by omega)
        first
          | (rw [if_pos (by omega)] at es
             rw [es] at nx
             exact nx)
          | (rw [if_neg (by omega)] at es
             rw [es] at nx
             exact nx)
      · refine s_inc3 ok rfl rfl ?_
        refine s_ldI4 ok rfl ?_
        refine s_ldI6 ok rfl ?_
        refine s_add ok rfl ?_
        refine s_stI4 ok rfl rfl ?_
        refine s_inc5 ok rfl rfl ?_
        refine s_goto ok rfl ?_
        have es : sTen (lA p (-4) 3 t) (m + 1) = if (lA p (-4) 3 t) (m : Int) = 2000 then sTen (lA p (-4) 3 t) m else ((sTen (lA p (-4) 3 t) m).1 + 1, (sTen (lA p (-4) 3 t) m).2 + (lA p (-4) 3 t) (m : Int)) := rfl
        have nx := ih (m + 1) g64 r9 (pBa p t + (m : Int)) (some (.int (iI (lA p (-4) 3 t (m : Int))))) ⟨by omega, by omega⟩ rfl ⟨fun q hq => (hg64.1 q hq).trans (i1 q hq), hg64.2, i3⟩ (by omega) (by omega)
        first
          | (rw [if_pos (by omega)] at es
             rw [es] at nx
             exact nx)
          | (rw [if_neg (by omega)] at es
             rw [es] at nx
             exact nx)
theorem ct_mean11 {E : zE} {d : Nat} {k : Nat → Nat × Nat} {h : Nat → Int → Int} {r : Nat → Int → Option Nat} {l : Nat → Nat → Int64} {n : Nat} {p : Int → Int} (hs : pS p) (hR : cR 4 5 6 7 8 9 10 11 12 13 k h r n p (-4)) {t a : Int} (zt : zb t) (za : zb a) : zCT E (d + 10) M_X11_mean [.ref 3, .int (iI (t)), .int (iI (a))] (zJ (k, h, r, l, n)) 0 0 (zVx (.long (if (0 ≤ t ∧ t < p 6) ∧ (0 ≤ a ∧ a ≤ 1) then lI (sMe a (sTen (lA p (-4) 3 t) 10)) else -1000000001)) (fun s => ∃ g r9, s = zJ (k, g, r9, l, n) ∧ cT h g ∧ (∀ q, ¬ q = 16 → r9 q = r q))) := by
  have ok := ok_X11_mean
  refine zCT_of pn_X11_mean (Nat.le_of_ble_eq_true rfl) ?_
  show zGo _ _ _ _ _ _ 0 ([some (.ref 3), some (.int (iI (t))), some (.int (iI (a))), none, none, none, none], [], _, _, _)
  have hp := hs.1
  have hft := hs.2.2.2.1
  have p60 := hp.2.2.2.2.2.2.2.2.2.2.2.2.1
  have p68 := hp.2.2.2.2.2.2.2.2.2.2.2.2.2.1
  have p00 := hp.1
  have p04 := hp.2.1
  have hf : ∀ q : Int, 0 ≤ q → q < p 6 → ¬ pFr p q = 4 := fun q q0 q1 => by have := pOf_gt hp q0 (by omega) (hft q q0 q1); omega
  refine s_ldA0 ok rfl ?_
  refine s_getF ok rfl rfl rfl rfl ?_
  refine s_ldI1 ok rfl ?_
  refine s_callV ok rfl rfl rfl rfl rfl rfl (ct_isPerson4 (cR4_n hR) p60 p68 zt) ?_
  refine s_if_eq ok rfl zif01 (fun c8 => ?_) (fun c8 => ?_)
  · refine s_cl ok rfl ?_
    first
      | exact s_retL ok rfl ⟨congrArg (fun z => some (Value.long z)) (if_neg (fun q => zif_f c8 q.1)).symm, h, r, rfl, fun _ _ => rfl, fun _ _ => rfl⟩
      | exact s_retL ok rfl ⟨congrArg (fun z => some (Value.long z)) (if_neg (fun q => absurd q.2 (by omega))).symm, h, r, rfl, fun _ _ => rfl, fun _ _ => rfl⟩
  · refine s_ldI2 ok rfl ?_
    refine s_if_lt ok rfl za (fun c12 => ?_) (fun c12 => ?_)
    · refine s_cl ok rfl ?_
      first
        | exact s_retL ok rfl ⟨congrArg (fun z => some (Value.long z)) (if_neg (fun q => zif_f c8 q.1)).symm, h, r, rfl, fun _ _ => rfl, fun _ _ => rfl⟩
        | exact s_retL ok rfl ⟨congrArg (fun z => some (Value.long z)) (if_neg (fun q => absurd q.2 (by omega))).symm, h, r, rfl, fun _ _ => rfl, fun _ _ => rfl⟩
    · refine s_ldI2 ok rfl ?_
      refine s_ci ok rfl ?_
      refine s_c_le ok rfl za ⟨by omega, by omega⟩ (fun c17 => ?_) (fun c17 => ?_)
      · have yt := zif_t c8
        have t0 := yt.1
        have t1 := yt.2
        obtain ⟨v8, hv8, wv8, h28, h38, h48⟩ := cR4_one hR t0 t1
        have b300 := hs.2.1 t t0 (by omega)
        obtain ⟨-, -, -, -, ⟨ba0, -⟩⟩ := hp.2.2.2.2.2.2.2.2.2.2.2.2.2.2.2.2 t t0 (by omega)
        have yes : (0 ≤ t ∧ t < p 6) ∧ (0 ≤ a ∧ a ≤ 1) := ⟨yt, by omega, by omega⟩
        refine s_ldA0 ok rfl ?_
        refine s_getF ok rfl rfl rfl rfl ?_
        refine s_ldA0 ok rfl ?_
        refine s_getF ok rfl rfl rfl rfl ?_
        refine s_callVvx ok rfl rfl rfl rfl rfl rfl (ct_become15_4 (d := d + 8) hR (by rw [cnP_4]; omega) p04) (fun σ32 hσ32 => ?_)
        obtain ⟨g32, r32, rfl, hg32⟩ := hσ32
        obtain ⟨f32, i3, hQ⟩ := hg32
        have i1 : cT h g32 := fun q hq => f32 q (by omega)
        have hQ2 : cR 15 16 17 18 19 20 21 22 23 24 k g32 r32 n (zp p (19 + 5 * t + 4) (p (19 + 5 * t + 4))) (-4) := by rw [zp_id]; exact hQ
        refine s_ci ok rfl ?_
        refine s_stI3 ok rfl rfl ?_
        refine s_ci ok rfl ?_
        refine s_stI4 ok rfl rfl ?_
        refine s_ci ok rfl ?_
        refine s_stI5 ok rfl rfl ?_
        have K := lp_mean11 (E := E) (d := d) (k := k) (h := h) (r := r) (l := l) (n := n) hs hR t0 t1 (a := a) (by omega) (by omega) 11 0 g32 r32 (p (19 + 5 * t + 4)) none ⟨ba0, by have : p (19 + 5 * t + 4) ≤ 300 := b300; omega⟩ rfl ⟨i1, hQ2, i3⟩ (by omega) (by omega)
        rw [if_pos yes]
        exact K
      · refine s_cl ok rfl ?_
        first
          | exact s_retL ok rfl ⟨congrArg (fun z => some (Value.long z)) (if_neg (fun q => zif_f c8 q.1)).symm, h, r, rfl, fun _ _ => rfl, fun _ _ => rfl⟩
          | exact s_retL ok rfl ⟨congrArg (fun z => some (Value.long z)) (if_neg (fun q => absurd q.2 (by omega))).symm, h, r, rfl, fun _ _ => rfl, fun _ _ => rfl⟩
