/-! Who is asked, one behind the other -/
def zar (h : Nat → Int → Int) (n : Nat) (a : Int → Int) : Nat → Int → Int := fun b => cond (Nat.beq b n) a (h b)
theorem zar_zv {h : Nat → Int → Int} {n : Nat} {a : Int → Int} {j v : Int} : zv (zar h n a) n j v = zar h n (fun i => if i = j then v else a i) := by
  funext b c
  rw [zv_eq]
  unfold zar
  by_cases e : b = n
  · subst e
    have e2 : Nat.beq b b = true := Nat.beq_refl b
    rw [e2]
    by_cases q : c = j
    · rw [if_pos ⟨rfl, q⟩]; exact (if_pos q).symm
    · rw [if_neg (fun z => q z.2)]; exact (if_neg q).symm
  · rw [if_neg (fun z => e z.1)]
    have e2 : Nat.beq b n = false := by cases z : Nat.beq b n; rfl; exact absurd (Nat.eq_of_beq_eq_true z) e
    rw [e2]
    rfl
theorem zar_self {h : Nat → Int → Int} {n : Nat} : zar h n (h n) = h := by
  funext b
  unfold zar
  cases z : Nat.beq b n
  · rfl
  · rw [Nat.eq_of_beq_eq_true z]; rfl
/-- the place of p among a's first n, from behind -/
def zpos (p : Int → Int) (a : Int → Int) (t : Int) : Nat → Nat
  | 0 => 0
  | n + 1 => if pAh p t (a n) then zpos p a t n else n + 1
theorem zpos_le {p a : Int → Int} {t : Int} : ∀ n, zpos p a t n ≤ n
  | 0 => Nat.le_refl _
  | n + 1 => by
    unfold zpos
    split
    · have := zpos_le (p := p) (a := a) (t := t) n; omega
    · omega
/-- from place c to n one place up -/
def shA (a : Int → Int) (n c : Nat) : Int → Int := fun j => if (c : Int) < j ∧ j ≤ n then a (j - 1) else a j
theorem shA_s {h : Nat → Int → Int} {a : Int → Int} {n j : Nat} (hj : j + 1 ≤ n) : zv (zar h 75 (shA a n (j + 1))) 75 ((j + 1 : Nat) : Int) (a j) = zar h 75 (shA a n j) := by
  rw [zar_zv]
  congr 1
  funext i
  unfold shA
  by_cases e : i = ((j + 1 : Nat) : Int)
  · rw [if_pos e, if_pos (by omega), e]
    congr 1
    omega
  · rw [if_neg e]
    by_cases q : ((j + 1 : Nat) : Int) < i ∧ i ≤ n
    · rw [if_pos q, if_pos (by omega)]
    · rw [if_neg q, if_neg (by omega)]
def insA (a : Int → Int) (n : Nat) (t : Int) (c : Nat) : Int → Int := fun j => if j = c then t else shA a n c j
def sAs1 (x : Int) (h : Nat → Int → Int) (p : Int) (q : Nat × (Int → Int)) : Nat × (Int → Int) := if ¬ p = h 59 17 ∧ h 69 p < 0 ∧ pFr (h 60) p = h 63 x then (q.1 + 1, insA q.2 q.1 p (zpos (h 60) q.2 p q.1)) else q
abbrev sAs (x : Int) (h : Nat → Int → Int) (c : Nat) : Nat × (Int → Int) := zfo (sAs1 x h) (0, h 75) c
theorem insA_in {a : Int → Int} {n : Nat} {t : Int} {c : Nat} (h : ∀ j : Int, 0 ≤ j → j < n → 0 ≤ a j ∧ a j < 8) (t0 : 0 ≤ t) (t1 : t < 8) (hc : c ≤ n) : ∀ j : Int, 0 ≤ j → j < ((n + 1 : Nat) : Int) → 0 ≤ insA a n t c j ∧ insA a n t c j < 8 := by
  intro j h0 h1
  unfold insA
  split
  · exact ⟨t0, t1⟩
  · unfold shA
    split
    · exact h (j - 1) (by omega) (by omega)
    · exact h j (by omega) (by omega)
theorem sAs_in {x : Int} {h : Nat → Int → Int} : ∀ c : Nat, c ≤ 8 → (sAs x h c).1 ≤ c ∧ ∀ j : Int, 0 ≤ j → j < ((sAs x h c).1 : Int) → 0 ≤ (sAs x h c).2 j ∧ (sAs x h c).2 j < 8
  | 0, _ => ⟨Nat.le_refl _, fun j h0 h1 => by simp only [sAs, zfo] at h1; omega⟩
  | c + 1, hc => by
    obtain ⟨i1, i2⟩ := sAs_in (x := x) (h := h) c (by omega)
    show (sAs1 x h c (sAs x h c)).1 ≤ c + 1 ∧ ∀ j : Int, 0 ≤ j → j < ((sAs1 x h c (sAs x h c)).1 : Int) → 0 ≤ (sAs1 x h c (sAs x h c)).2 j ∧ (sAs1 x h c (sAs x h c)).2 j < 8
    unfold sAs1
    split
    · exact ⟨by show (sAs x h c).1 + 1 ≤ c + 1; omega, insA_in i2 (by omega) (by omega) (zpos_le _)⟩
    · exact ⟨by omega, i2⟩
theorem zif01 {c : Prop} [Decidable c] : zb (if c then 1 else 0) := by split <;> exact ⟨by omega, by omega⟩
theorem lp_asks_in {E : zE} {d : Nat} {k : Nat → Nat × Nat} {h : Nat → Int → Int} {r : Nat → Int → Option Nat} {l : Nat → Nat → Int64} {n : Nat} {Q : zQ} {x p : Int} {n9 : Nat} {a : Int → Int} (hp : pOK (h 60)) (p0 : 0 ≤ p) (p1 : p < 8) (hn9 : n9 ≤ 7) (ha : ∀ j : Int, 0 ≤ j → j < n9 → 0 ≤ a j ∧ a j < 8) (hX : zGo E (d + 3) M_X12_asks 0 0 Q 107 ([some (.ref 59), some (.int (iI x)), some (.int (iI ((n9 + 1 : Nat) : Int))), some (.int (iI p)), some (.int (iI ((zpos (h 60) a p n9 : Nat) : Int)))], [], zJ (k, zar h 75 (insA a n9 p (zpos (h 60) a p n9)), r, l, n), 0, 0)) : ∀ c : Nat, ∀ k9 : Nat, k9 < c → k9 ≤ n9 → zpos (h 60) a p k9 = zpos (h 60) a p n9 → zGo E (d + 3) M_X12_asks 0 0 Q 52 ([some (.ref 59), some (.int (iI x)), some (.int (iI (n9 : Int))), some (.int (iI p)), some (.int (iI (k9 : Int)))], [], zJ (k, zar h 75 (shA a n9 k9), r, l, n), 0, 0) := by
  have ok := ok_X12_asks
  intro c
  induction c with
  | zero =>
    intros
    omega
  | succ c ih =>
    intro k9 g1 g2 g3
    refine s_ldI4 ok rfl ?_
    refine s_if_le ok rfl (by first | exact hb _ _ | exact ⟨by omega, by omega⟩) (fun c54 => ?_) (fun c54 => ?_)
    · refine s_ldA0 ok rfl ?_
      refine s_getF ok rfl rfl rfl rfl ?_
      refine s_ldI4 ok rfl ?_
      refine s_ldI3 ok rfl ?_
      refine s_iast ok rfl (by exact rfl) (by exact rfl) (by omega) (by omega) (fun q => by cases q) ?_
      refine s_inc2 ok rfl rfl ?_
      have ez : zpos (h 60) a p n9 = k9 := by rw [← g3, show k9 = 0 by omega]; rfl
      refine zgo_eq ?_ hX
      rw [ez, zar_zv]
      rfl
    · obtain ⟨j9, rfl⟩ : ∃ j9, k9 = j9 + 1 := ⟨k9 - 1, by omega⟩
      obtain ⟨b0, b1⟩ := ha j9 (by omega) (by omega)
      have hv : zar h 75 (shA a n9 (j9 + 1)) 75 (((j9 + 1 : Nat) : Int) - 1) = a j9 := by
        show shA a n9 (j9 + 1) _ = _
        unfold shA
        rw [if_neg (by omega)]
        congr 1
        omega
      refine s_ldA0 ok rfl ?_
      refine s_ldI3 ok rfl ?_
      refine s_ldA0 ok rfl ?_
      refine s_getF ok rfl rfl rfl rfl ?_
      refine s_ldI4 ok rfl ?_
      refine s_ci ok rfl ?_
      refine s_sub ok rfl ?_
      refine s_iald ok rfl (by exact rfl) (by exact rfl) (by omega) (by omega) ?_
      rw [hv]
      refine s_callV ok rfl rfl rfl rfl rfl rfl (ct_isAskedAhead (h := zar h 75 (shA a n9 (j9 + 1))) hp p0 p1 b0 b1) ?_
      refine s_if_eq ok rfl zif01 (fun c71 => ?_) (fun c71 => ?_)
      · refine s_ldA0 ok rfl ?_
        refine s_getF ok rfl rfl rfl rfl ?_
        refine s_ldI4 ok rfl ?_
        refine s_ldI3 ok rfl ?_
        refine s_iast ok rfl (by exact rfl) (by exact rfl) (by omega) (by omega) (fun q => by cases q) ?_
        refine s_inc2 ok rfl rfl ?_
        have ez : zpos (h 60) a p n9 = j9 + 1 := by
            have c9 : (if pAh (h 60) p (a j9) then (1 : Int) else 0) = 0 := c71
            rw [← g3]
            exact if_neg (fun z => by rw [if_pos z] at c9; omega)
        refine zgo_eq ?_ hX
        rw [ez, zar_zv]
        rfl
      · have hah : pAh (h 60) p (a j9) := Classical.byContradiction fun z => c71 (if_neg z)
        refine s_ldA0 ok rfl ?_
        refine s_getF ok rfl rfl rfl rfl ?_
        refine s_ldI4 ok rfl ?_
        refine s_ldA0 ok rfl ?_
        refine s_getF ok rfl rfl rfl rfl ?_
        refine s_ldI4 ok rfl ?_
        refine s_ci ok rfl ?_
        refine s_sub ok rfl ?_
        refine s_iald ok rfl (by exact rfl) (by exact rfl) (by omega) (by omega) ?_
        rw [hv]
        refine s_iast ok rfl (by exact rfl) (by exact rfl) (by omega) (by omega) (fun q => by cases q) ?_
        refine s_inc4 ok rfl rfl ?_
        refine s_goto ok rfl ?_
        refine zgo_eq ?_ (ih j9 (by omega) (by omega) (by rw [← g3]; exact (if_pos hah).symm))
        rw [shA_s (by omega), show ((j9 + 1 : Nat) : Int) + -1 = (j9 : Int) by omega]
theorem lp_asks {E : zE} {d : Nat} {k : Nat → Nat × Nat} {h : Nat → Int → Int} {r : Nat → Int → Option Nat} {l : Nat → Nat → Int64} {n : Nat} {Q : zQ} {x : Int} (hp : pOK (h 60)) (x0 : 0 ≤ x) (x1 : x < 12) (h3 : zb (h 63 x)) (h9 : ∀ j, zb (h 69 j)) (h17 : zb (h 59 17)) {np : Nat} (hn : h 60 6 = np) (hn8 : np ≤ 8) (hQ : Q (some (.int (iI (((sAs x h np).1 : Nat) : Int)))) (zJ (k, zar h 75 (sAs x h np).2, r, l, n))) : ∀ c : Nat, ∀ (p : Nat) (u : Option Value), znl u = true → np < p + c → p ≤ np → zGo E (d + 3) M_X12_asks 0 0 Q 4 ([some (.ref 59), some (.int (iI x)), some (.int (iI (((sAs x h p).1 : Nat) : Int))), some (.int (iI (p : Int))), u], [], zJ (k, zar h 75 (sAs x h p).2, r, l, n), 0, 0) := by
  have ok := ok_X12_asks
  intro c
  induction c with
  | zero =>
    intros
    omega
  | succ c ih =>
    intro p u hu g1 g2
    obtain ⟨i1, i2⟩ := sAs_in (x := x) (h := h) p (by omega)
    have i3 : sAs x h (p + 1) = sAs1 x h p (sAs x h p) := rfl
    generalize eg : sAs x h p = g at *
    obtain ⟨n9, a⟩ := g
    dsimp only at i1 i2 i3 ⊢
    have z69 := h9 p
    have y1 : zar h 75 a 60 6 = h 60 6 := rfl
    have y2 : zar h 75 a 59 17 = h 59 17 := rfl
    have y3 : zar h 75 a 69 p = h 69 p := rfl
    have y4 : zar h 75 a 63 x = h 63 x := rfl
    have y5 : pFr (zar h 75 a 60) p = pFr (h 60) p := rfl
    refine s_ldI3 ok rfl ?_
    refine s_ldA0 ok rfl ?_
    refine s_getF ok rfl rfl rfl rfl ?_
    refine s_ci ok rfl ?_
    refine s_iald ok rfl (by exact rfl) (by exact rfl) (by omega) (by omega) ?_
    refine s_c_ge ok rfl ⟨by omega, by omega⟩ (by show zb (h 60 6); exact ⟨by omega, by omega⟩) (fun c12 => ?_) (fun c12 => ?_)
    · refine s_ldI2 ok rfl ?_
      refine s_retI ok rfl (by rw [show np = p by omega, eg] at hQ; exact hQ)
    · have zfr : 0 ≤ pFr (h 60) p ∧ pFr (h 60) p < 5 := (hp.2.2.2.2.2.2.2.2.2.2.2.2.2.2.2.2 p (by omega) (by omega)).2.2.1
      refine s_ldI3 ok rfl ?_
      refine s_ldA0 ok rfl ?_
      refine s_getJ 17 ok rfl rfl rfl rfl ?_
      refine s_c_eq ok rfl ⟨by omega, by omega⟩ h17 (fun c20 => ?_) (fun c20 => ?_)
      · refine s_inc3 ok rfl rfl ?_
        refine s_goto ok rfl ?_
        have e9 : sAs1 x h p (n9, a) = (n9, a) := if_neg (by omega)
        rw [e9] at i3
        have hh := ih (p + 1) u hu (by omega) (by omega)
        rw [i3] at hh
        exact hh
      · refine s_ldA0 ok rfl ?_
        refine s_getF ok rfl rfl rfl rfl ?_
        refine s_ldI3 ok rfl ?_
        refine s_iald ok rfl (by exact rfl) (by exact rfl) (by omega) (by omega) ?_
        refine s_if_ge ok rfl z69 (fun c29 => ?_) (fun c29 => ?_)
        · refine s_inc3 ok rfl rfl ?_
          refine s_goto ok rfl ?_
          have e9 : sAs1 x h p (n9, a) = (n9, a) := if_neg (by omega)
          rw [e9] at i3
          have hh := ih (p + 1) u hu (by omega) (by omega)
          rw [i3] at hh
          exact hh
        · refine s_ldA0 ok rfl ?_
          refine s_ldI3 ok rfl ?_
          refine s_callV ok rfl rfl rfl rfl rfl rfl (ct_from (by omega) (by omega)) ?_
          refine s_ldA0 ok rfl ?_
          refine s_getF ok rfl rfl rfl rfl ?_
          refine s_ldI1 ok rfl ?_
          refine s_iald ok rfl (by exact rfl) (by exact rfl) (by omega) (by omega) ?_
          refine s_c_eq ok rfl ⟨by omega, by omega⟩ h3 (fun c43 => ?_) (fun c43 => ?_)
          · refine s_ldI2 ok rfl ?_
            refine s_stI4 ok rfl rfl ?_
            have e1 : shA a n9 n9 = a := by
              funext i
              unfold shA
              rw [if_neg (by omega)]
            have e9 : sAs1 x h p (n9, a) = (n9 + 1, insA a n9 p (zpos (h 60) a p n9)) := if_pos ⟨c20, c29, c43⟩
            rw [e9] at i3
            refine zgo_eq ?_ (lp_asks_in (k := k) (r := r) (l := l) (n := n) (x := x) (a := a) hp (p := p) (by omega) (by omega) (by omega) i2 ?_ (n9 + 1) n9 (by omega) (Nat.le_refl _) rfl)
            · rw [e1]
            refine s_inc3 ok rfl rfl ?_
            refine s_goto ok rfl ?_
            have hh := ih (p + 1) (some (.int (iI ((zpos (h 60) a p n9 : Nat) : Int)))) rfl (by omega) (by omega)
            rw [i3] at hh
            exact hh
          · refine s_goto ok rfl ?_
            refine s_inc3 ok rfl rfl ?_
            refine s_goto ok rfl ?_
            have e9 : sAs1 x h p (n9, a) = (n9, a) := if_neg (by omega)
            rw [e9] at i3
            have hh := ih (p + 1) u hu (by omega) (by omega)
            rw [i3] at hh
            exact hh
theorem ct_asks {E : zE} {d : Nat} {k : Nat → Nat × Nat} {h : Nat → Int → Int} {r : Nat → Int → Option Nat} {l : Nat → Nat → Int64} {n : Nat} {x : Int} (hp : pOK (h 60)) (x0 : 0 ≤ x) (x1 : x < 12) (h3 : zb (h 63 x)) (h9 : ∀ j, zb (h 69 j)) (h17 : zb (h 59 17)) {np : Nat} (hn : h 60 6 = np) (hn8 : np ≤ 8) : zCT E (d + 3) M_X12_asks [.ref 59, .int (iI x)] (zJ (k, h, r, l, n)) 0 0 (zV (.int (iI (((sAs x h np).1 : Nat) : Int))) (zJ (k, zar h 75 (sAs x h np).2, r, l, n))) := by
  have ok := ok_X12_asks
  refine zCT_of pn_X12_asks (Nat.le_of_ble_eq_true rfl) ?_
  show zGo _ _ _ _ _ _ 0 ([some (.ref 59), some (.int (iI x)), none, none, none], [], _, _, _)
  refine s_ci ok rfl ?_
  refine s_stI2 ok rfl rfl ?_
  refine s_ci ok rfl ?_
  refine s_stI3 ok rfl rfl ?_
  have hh := lp_asks (k := k) (r := r) (l := l) (n := n) (E := E) (d := d) (x := x) hp x0 x1 h3 h9 h17 hn hn8 (Q := zV (.int (iI (((sAs x h np).1 : Nat) : Int))) (zJ (k, zar h 75 (sAs x h np).2, r, l, n))) ⟨rfl, rfl⟩ (np + 1) 0 none rfl (by omega) (by omega)
  refine zgo_eq ?_ hh
  show _ = (_, _, zJ (k, zar h 75 (h 75), r, l, n), _, _)
  rw [zar_self]
  rfl
