/-! wrongTicket, wrongTickets -/
/-- the shelves' numbers are in their ranges -/
def dKp (h : Nat → Int → Int) : Prop := (∀ j, zb (h 80 j)) ∧ (∀ j, zb (h 83 j)) ∧ (∀ j, 0 ≤ h 84 j ∧ h 84 j ≤ 100) ∧ (∀ j, zb (h 85 j))
/-- the first number that W holds of, below c; c if there is none -/
def sFst (W : Int → Bool) : Nat → Int
  | 0 => 0
  | c + 1 => if sFst W c < c then sFst W c else if W c = true then (c : Int) else (c : Int) + 1
theorem sFst_fix {W : Int → Bool} {c : Nat} (hc : sFst W c < c) : ∀ d : Nat, sFst W (c + d) = sFst W c
  | 0 => rfl
  | d + 1 => by
    have i := sFst_fix hc d
    show (if sFst W (c + d) < ((c + d : Nat) : Int) then sFst W (c + d) else if W ((c + d : Nat) : Int) = true then ((c + d : Nat) : Int) else ((c + d : Nat) : Int) + 1) = _
    rw [i, if_pos (by omega)]
def kLe (a : Int) : Int := if a = 0 then -128 else if a = 1 then -32768 else -2147483648
theorem kLe_zb {a : Int} : zb (kLe a) := by
  unfold kLe zb
  (repeat' split) <;> omega
/-- the ticket t on the row of the shelf x is wrong by the day o -/
def sTw (h : Nat → Int → Int) (o : Int → Int) (x t : Int) : Bool := decide (¬ h 85 (100 * x + t) = kLe (h 83 x) ∧ ¬ h 85 (100 * x + t) = if o t < 0 then -1 else o t)
theorem lp_wrongTicket {E : zE} {d : Nat} {k : Nat → Nat × Nat} {h : Nat → Int → Int} {r : Nat → Int → Option Nat} {l : Nat → Nat → Int64} {n : Nat} {Q : zQ} (hk : dKp h) (h9 : ∀ j, zb (h 69 j)) {x : Int} (x0 : 0 ≤ x) (x1 : x < 8) (s8 : h 84 x ≤ 8) {n9 : Nat} (hn : h 84 x = (n9 : Int)) (hQ : Q (some (.int (iI (sFst (sTw h (h 69) x) n9)))) (zJ (k, h, r, l, n))) : ∀ c : Nat, ∀ (m : Nat) (u : Option Value), sFst (sTw h (h 69) x) m = m → n9 < m + c → m ≤ n9 → zGo E (d + 1) M_X12_wrongTicket 0 0 Q 2 ([some (.ref 59), some (.int (iI (x))), some (.int (iI ((m : Int)))), u], [], zJ (k, h, r, l, n), 0, 0) := by
  have ok := ok_X12_wrongTicket
  intro c
  induction c with
  | zero =>
    intros
    omega
  | succ c ih =>
    intro m u hm g1 g2
    have e3 : sFst (sTw h (h 69) x) (m + 1) = if sFst (sTw h (h 69) x) m < m then sFst (sTw h (h 69) x) m else if (sTw h (h 69) x) m = true then (m : Int) else (m : Int) + 1 := rfl
    rw [if_neg (by omega)] at e3
    have fx := fun q => sFst_fix (W := (sTw h (h 69) x)) (c := m + 1) q (n9 - (m + 1))
    have zt : zb (if h 69 m < 0 then -1 else h 69 m) := by
      have := h9 m
      split
      · exact ⟨by omega, by omega⟩
      · exact this
    refine s_ldI2 ok rfl ?_
    refine s_ldA0 ok rfl ?_
    refine s_getF ok rfl rfl rfl rfl ?_
    refine s_ldI1 ok rfl ?_
    refine s_iald ok rfl (by exact rfl) (by exact rfl) (by omega) (by omega) ?_
    refine s_c_ge ok rfl (by first | exact hb _ _ | exact ⟨by omega, by omega⟩) (by first | exact hb _ _ | exact ⟨by omega, by omega⟩) (fun c9 => ?_) (fun c9 => ?_)
    · refine s_ldA0 ok rfl ?_
      refine s_getF ok rfl rfl rfl rfl ?_
      refine s_ldI1 ok rfl ?_
      refine s_iald ok rfl (by exact rfl) (by exact rfl) (by omega) (by omega) ?_
      refine s_retI ok rfl (by have z := hQ; rw [show n9 = m by omega, hm] at z; rw [hn, show n9 = m by omega]; exact z)
    · refine s_ldA0 ok rfl ?_
      refine s_getF ok rfl rfl rfl rfl ?_
      refine s_ci ok rfl ?_
      refine s_ldI1 ok rfl ?_
      refine s_mul ok rfl ?_
      refine s_ldI2 ok rfl ?_
      refine s_add ok rfl ?_
      refine s_iald ok rfl (by exact rfl) (by exact rfl) (by omega) (by omega) ?_
      refine s_stI3 ok rfl rfl ?_
      refine s_ldI3 ok rfl ?_
      refine s_ldA0 ok rfl ?_
      refine s_ldA0 ok rfl ?_
      refine s_getF ok rfl rfl rfl rfl ?_
      refine s_ldI1 ok rfl ?_
      refine s_iald ok rfl (by exact rfl) (by exact rfl) (by omega) (by omega) ?_
      refine s_callV ok rfl rfl rfl rfl rfl rfl (ct_leastOf (hk.2.1 x)) ?_
      refine s_c_eq ok rfl (hk.2.2.2 _) kLe_zb (fun c35 => ?_) (fun c35 => ?_)
      · refine s_inc2 ok rfl rfl ?_
        refine s_goto ok rfl ?_
        have ew : ¬ (sTw h (h 69) x) m = true := by
          unfold sTw
          intro q
          have q := of_decide_eq_true q
          first | exact q.1 c35 | exact q.2 c44
        rw [if_neg ew] at e3
        exact ih (m + 1) _ (by rw [e3]; omega) (by omega) (by omega)
      · refine s_ldI3 ok rfl ?_
        refine s_ldA0 ok rfl ?_
        refine s_ldI2 ok rfl ?_
        refine s_callV ok rfl rfl rfl rfl rfl rfl (ct_ticketOf (h9 m) (by omega) (by omega)) ?_
        refine s_c_eq ok rfl (hk.2.2.2 _) zt (fun c44 => ?_) (fun c44 => ?_)
        · refine s_inc2 ok rfl rfl ?_
          refine s_goto ok rfl ?_
          have ew : ¬ (sTw h (h 69) x) m = true := by
            unfold sTw
            intro q
            have q := of_decide_eq_true q
            first | exact q.1 c35 | exact q.2 c44
          rw [if_neg ew] at e3
          exact ih (m + 1) _ (by rw [e3]; omega) (by omega) (by omega)
        · refine s_ldI2 ok rfl ?_
          refine s_retI ok rfl (by have ew : (sTw h (h 69) x) m = true := decide_eq_true (And.intro c35 c44); rw [if_pos ew] at e3; have z := hQ; rw [show n9 = m + 1 + (n9 - (m + 1)) by omega, fx (by omega), e3] at z; exact z)
theorem ct_wrongTicket {E : zE} {d : Nat} {k : Nat → Nat × Nat} {h : Nat → Int → Int} {r : Nat → Int → Option Nat} {l : Nat → Nat → Int64} {n : Nat} (hk : dKp h) (h9 : ∀ j, zb (h 69 j)) {x : Int} (x0 : 0 ≤ x) (x1 : x < 8) (s8 : h 84 x ≤ 8) : zCT E (d + 1) M_X12_wrongTicket [.ref 59, .int (iI (x))] (zJ (k, h, r, l, n)) 0 0 (zV (.int (iI (sFst (sTw h (h 69) x) (h 84 x).toNat))) (zJ (k, h, r, l, n))) := by
  have ok := ok_X12_wrongTicket
  refine zCT_of pn_X12_wrongTicket (Nat.le_of_ble_eq_true rfl) ?_
  show zGo _ _ _ _ _ _ 0 ([some (.ref 59), some (.int (iI (x))), none, none], [], _, _, _)
  refine s_ci ok rfl ?_
  refine s_stI2 ok rfl rfl ?_
  have s0 := hk.2.2.1 x
  exact lp_wrongTicket (E := E) (d := d) (k := k) (r := r) (l := l) (n := n) hk h9 x0 x1 s8 (n9 := (h 84 x).toNat) (by omega) (Q := zV (.int (iI (sFst (sTw h (h 69) x) (h 84 x).toNat))) (zJ (k, h, r, l, n))) ⟨rfl, rfl⟩ ((h 84 x).toNat + 1) 0 none rfl (by omega) (by omega)
theorem sWR_in {h : Nat → Int → Int} {x b : Int} : -12 ≤ sWR h x b ∧ sWR h x b ≤ 0 ∧ (sWR h x b = 0 → 0 ≤ x ∧ x < 8) := by
  unfold sWR
  (repeat' split) <;> omega
theorem ct_wrongTickets {E : zE} {d : Nat} {k : Nat → Nat × Nat} {h : Nat → Int → Int} {r : Nat → Int → Option Nat} {l : Nat → Nat → Int64} {n : Nat} (hp : pOK (h 60)) (hk : dKp h) {x : Int} (zx : zb x) : zCT E (d + 3) M_X12_wrongTickets [.ref 59, .int (iI (x))] (zJ (k, h, r, l, n)) 0 0 (zV (.int (iI (if ¬ sWR h x (-1) = 0 then sWR h x (-1) else if h 60 6 < h 84 x then -13 else 0))) (zJ (k, h, r, l, n))) := by
  have ok := ok_X12_wrongTickets
  refine zCT_of pn_X12_wrongTickets (Nat.le_of_ble_eq_true rfl) ?_
  show zGo _ _ _ _ _ _ 0 ([some (.ref 59), some (.int (iI (x))), none], [], _, _, _)
  obtain ⟨w0, w1, w2⟩ := sWR_in (h := h) (x := x) (b := -1)
  have p6 := hp.2.2.2.2.2.2.2.2.2.2.2.2.2.1
  have p6a := hp.2.2.2.2.2.2.2.2.2.2.2.2.1
  have s0 := hk.2.2.1 x
  refine s_ldA0 ok rfl ?_
  refine s_ldI1 ok rfl ?_
  refine s_ci ok rfl ?_
  refine s_callV ok rfl rfl rfl rfl rfl rfl (ct_wrongRow zx ⟨by omega, by omega⟩ hk.1 hk.2.1) ?_
  refine s_stI2 ok rfl rfl ?_
  refine s_ldI2 ok rfl ?_
  refine s_if_eq ok rfl (by first | exact hb _ _ | exact ⟨by omega, by omega⟩) (fun c8 => ?_) (fun c8 => ?_)
  · obtain ⟨x0, x1⟩ := w2 c8
    refine s_ldA0 ok rfl ?_
    refine s_getF ok rfl rfl rfl rfl ?_
    refine s_ldI1 ok rfl ?_
    refine s_iald ok rfl (by exact rfl) (by exact rfl) (by omega) (by omega) ?_
    refine s_ldA0 ok rfl ?_
    refine s_getF ok rfl rfl rfl rfl ?_
    refine s_ci ok rfl ?_
    refine s_iald ok rfl (by exact rfl) (by exact rfl) (by omega) (by omega) ?_
    refine s_c_le ok rfl (by first | exact hb _ _ | exact ⟨by omega, by omega⟩) (by first | exact hb _ _ | exact ⟨by omega, by omega⟩) (fun c28 => ?_) (fun c28 => ?_)
    · refine s_ci ok rfl ?_
      refine s_retI ok rfl ⟨congrArg (fun z => some (Value.int (iI z))) (by first | exact (if_pos c8).symm | exact ((if_neg (fun q => q c8)).trans (if_pos (by omega))).symm | exact ((if_neg (fun q => q c8)).trans (if_neg (by omega))).symm), rfl⟩
    · refine s_ci ok rfl ?_
      refine s_goto ok rfl ?_
      refine s_retI ok rfl ⟨congrArg (fun z => some (Value.int (iI z))) (by first | exact (if_pos c8).symm | exact ((if_neg (fun q => q c8)).trans (if_pos (by omega))).symm | exact ((if_neg (fun q => q c8)).trans (if_neg (by omega))).symm), rfl⟩
  · refine s_ldI2 ok rfl ?_
    refine s_goto ok rfl ?_
    refine s_retI ok rfl ⟨congrArg (fun z => some (Value.int (iI z))) (by first | exact (if_pos c8).symm | exact ((if_neg (fun q => q c8)).trans (if_pos (by omega))).symm | exact ((if_neg (fun q => q c8)).trans (if_neg (by omega))).symm), rfl⟩
