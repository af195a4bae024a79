/-! Who arrives had got on; sums, fate -/
def dOn (g : Nat → Int → Int) : Prop := ∀ p, 0 ≤ g 71 p → 0 ≤ g 69 p
theorem dOn.o {g : Nat → Int → Int} (q : dOn g) {n : Nat} {j v : Int} (h1 : ¬ n = 69) (h2 : ¬ n = 71) : dOn (zv g n j v) := fun p => by
  rw [zv_other (by omega), zv_other (by omega)]
  exact q p
theorem dOn.s69 {g : Nat → Int → Int} (q : dOn g) {j v : Int} (v0 : 0 ≤ v) : dOn (zv g 69 j v) := fun p => by
  rw [zv_other (a := 71) (by omega), zv_eq]
  have := q p
  split
  · omega
  · exact this
theorem dOn.s71 {g : Nat → Int → Int} (q : dOn g) {j v : Int} (v0 : 0 ≤ g 69 j) : dOn (zv g 71 j v) := fun p => by
  rw [zv_other (a := 69) (by omega), zv_eq]
  have := q p
  split
  · rename_i e
    rw [e.2]
    omega
  · exact this
theorem dOn_GO {h : Nat → Int → Int} {x : Int} (q : dOn h) (x0 : 0 ≤ x) : ∀ c : Nat, dOn (sGO x h c)
  | 0 => q
  | c + 1 => by
    have i1 := dOn_GO q x0 c
    show dOn (sGO1 x c (sGO x h c))
    generalize sGO x h c = g at *
    unfold sGO1
    split
    · rename_i e
      exact ((i1.s71 (by omega)).o (by omega) (by omega)).o (by omega) (by omega)
    · exact i1
theorem dOn_Try {g : Nat → Int → Int} {x p : Int} (q : dOn g) (x0 : 0 ≤ x) : dOn (sTry x p g) := by
  have q2 : ∀ c : Prop, [Decidable c] → dOn (if c then zv g 74 p (g 74 p + 1) else g) := by
    intro c _
    split
    · exact q.o (by omega) (by omega)
    · exact q
  unfold sTry
  split
  · exact (((q.s69 x0).o (by omega) (by omega)).o (by omega) (by omega)).o (by omega) (by omega)
  · split
    · exact q2 _
    · exact ((q2 _).o (by omega) (by omega)).o (by omega) (by omega)
theorem dOn_Ta {g : Nat → Int → Int} {x : Int} {a : Int → Int} (q : dOn g) (x0 : 0 ≤ x) : ∀ c : Nat, dOn (zfo (fun j s => sTry x (a j) s) g c)
  | 0 => q
  | c + 1 => dOn_Try (dOn_Ta q x0 c) x0
theorem dOn_stop {h : Nat → Int → Int} {x : Int} (q : dOn h) (x0 : 0 ≤ x) : dOn (sStop x h) := by
  have b2 : dOn (sS2 x h) := dOn_GO (h := zv (zv h 59 19 0) 67 (5 * x + h 63 x) (h 64 x)) ((q.o (by omega) (by omega)).o (by omega) (by omega)) x0 (nP h)
  have b3 : dOn (sS3 x h) := fun p => by
    unfold sS3
    rw [zar_other (by omega), zar_other (by omega)]
    exact b2 p
  have b4 : dOn (sS4 x h) := by
    unfold sS4
    split
    · exact dOn_Ta b3 x0 _
    · exact b2
  have b6 : dOn (sS6 x h) := (b4.o (by omega) (by omega)).o (by omega) (by omega)
  unfold sStop
  refine dOn.o ?_ (by omega) (by omega)
  unfold sS7
  split
  · exact b6.o (by omega) (by omega)
  · exact b6
theorem dOn_evs : ∀ (c : Nat) {h : Nat → Int → Int}, dOn h → dOn (sEvs c h)
  | 0, _, q => q
  | c + 1, h, q => by
    have i := sNx_in h (nT h)
    unfold sEvs
    generalize sNx h (nT h) = x at *
    by_cases z : x < 0
    · rw [if_pos z]
      exact q
    · rw [if_neg z]
      exact dOn_evs c (dOn_stop q (by omega))
theorem dOn_dN {p : Int → Int} {w dd : Int} : dOn (dN p w dd) := by
  refine dOn_evs 61 (fun j => ?_)
  unfold sBeg sB2
  by_cases c : 0 ≤ j ∧ j < dC p w dd 60 6
  · rw [if_pos ⟨c.1, c.2, by omega, by omega⟩, if_pos (by omega)]
    omega
  · rw [if_neg (by omega), if_neg (by omega), sB1_lo (by omega), sB1_lo (by omega)]
    unfold dC
    rw [if_neg (by omega), if_neg (by omega), if_neg (by omega), if_neg (by omega), if_neg (by omega), if_neg (by omega)]
    omega
/-- what p adds to the sum of the sort a -/
def sSm (g : Nat → Int → Int) (q : Int → Int) (a p : Int) : Int := if a = 0 then (if g 71 p < 0 then 0 else 1) else if a = 1 then (if g 71 p < 0 then 1 else 0) else if a = 2 then g 73 p else if a = 3 then (if g 71 p < 0 then 0 else g 70 p - pCm q p) else if g 71 p < 0 then 0 else pRf q p (g 69 p % 3)
theorem ct_sumOf {E : zE} {d : Nat} {k : Nat → Nat × Nat} {h : Nat → Int → Int} {r : Nat → Int → Option Nat} {l : Nat → Nat → Int64} {n : Nat} (hp : pOK (h 60)) {a t : Int} (za : zb a) (t0 : 0 ≤ t) (t1 : t < 8) (z71 : zb (h 71 t)) (z69 : -4 ≤ h 69 t ∧ h 69 t < 12) (hon : 0 ≤ h 71 t → 0 ≤ h 69 t) : zCT E (d + 2) M_X12_sumOf [.ref 59, .int (iI (a)), .int (iI (t))] (zJ (k, h, r, l, n)) 0 0 (zV (.int (iI (sSm h (h 60) a t))) (zJ (k, h, r, l, n))) := by
  have ok := ok_X12_sumOf
  refine zCT_of pn_X12_sumOf (Nat.le_of_ble_eq_true rfl) ?_
  show zGo _ _ _ _ _ _ 0 ([some (.ref 59), some (.int (iI (a))), some (.int (iI (t))), none], [], _, _, _)
  refine s_ldA0 ok rfl ?_
  refine s_getF ok rfl rfl rfl rfl ?_
  refine s_ldI2 ok rfl ?_
  refine s_iald ok rfl (by exact rfl) (by exact rfl) (by omega) (by omega) ?_
  refine s_if_lt ok rfl z71 (fun c6 => ?_) (fun c6 => ?_)
  · refine s_ci ok rfl ?_
    refine s_stI3 ok rfl rfl ?_
    refine s_ldI1 ok rfl ?_
    refine s_sw ok rfl ?_
    refine zsw_c za (by first | exact hb _ _ | exact ⟨by omega, by omega⟩) (fun c16 => ?_) (fun c16_0 => ?_)
    · refine s_ldI3 ok rfl ?_
      refine s_if_eq ok rfl (by first | exact hb _ _ | exact ⟨by omega, by omega⟩) (fun c49 => ?_) (fun c49 => ?_)
      · refine s_ci ok rfl ?_
        refine s_retI ok rfl ⟨congrArg (fun z => some (Value.int (iI z))) (by first | (exfalso; omega) | (unfold sSm; (repeat (first | rw [if_pos (by omega)] | rw [if_neg (by omega)])); done)), rfl⟩
      · refine s_ci ok rfl ?_
        refine s_goto ok rfl ?_
        refine s_retI ok rfl ⟨congrArg (fun z => some (Value.int (iI z))) (by first | (exfalso; omega) | (unfold sSm; (repeat (first | rw [if_pos (by omega)] | rw [if_neg (by omega)])); done)), rfl⟩
    refine zsw_c za (by first | exact hb _ _ | exact ⟨by omega, by omega⟩) (fun c16 => ?_) (fun c16_1 => ?_)
    · refine s_ldI3 ok rfl ?_
      refine s_if_eq ok rfl (by first | exact hb _ _ | exact ⟨by omega, by omega⟩) (fun c59 => ?_) (fun c59 => ?_)
      · refine s_ci ok rfl ?_
        refine s_retI ok rfl ⟨congrArg (fun z => some (Value.int (iI z))) (by first | (exfalso; omega) | (unfold sSm; (repeat (first | rw [if_pos (by omega)] | rw [if_neg (by omega)])); done)), rfl⟩
      · refine s_ci ok rfl ?_
        refine s_goto ok rfl ?_
        refine s_retI ok rfl ⟨congrArg (fun z => some (Value.int (iI z))) (by first | (exfalso; omega) | (unfold sSm; (repeat (first | rw [if_pos (by omega)] | rw [if_neg (by omega)])); done)), rfl⟩
    refine zsw_c za (by first | exact hb _ _ | exact ⟨by omega, by omega⟩) (fun c16 => ?_) (fun c16_2 => ?_)
    · refine s_ldA0 ok rfl ?_
      refine s_getF ok rfl rfl rfl rfl ?_
      refine s_ldI2 ok rfl ?_
      refine s_iald ok rfl (by exact rfl) (by exact rfl) (by omega) (by omega) ?_
      refine s_retI ok rfl ⟨congrArg (fun z => some (Value.int (iI z))) (by first | (exfalso; omega) | (unfold sSm; (repeat (first | rw [if_pos (by omega)] | rw [if_neg (by omega)])); done)), rfl⟩
    refine zsw_c za (by first | exact hb _ _ | exact ⟨by omega, by omega⟩) (fun c16 => ?_) (fun c16_3 => ?_)
    · refine s_ldI3 ok rfl ?_
      refine s_if_eq ok rfl (by first | exact hb _ _ | exact ⟨by omega, by omega⟩) (fun c76 => ?_) (fun c76 => ?_)
      · refine s_ci ok rfl ?_
        refine s_retI ok rfl ⟨congrArg (fun z => some (Value.int (iI z))) (by first | (exfalso; omega) | (unfold sSm; (repeat (first | rw [if_pos (by omega)] | rw [if_neg (by omega)])); done)), rfl⟩
      · refine s_ldA0 ok rfl ?_
        refine s_getF ok rfl rfl rfl rfl ?_
        refine s_ldI2 ok rfl ?_
        refine s_iald ok rfl (by exact rfl) (by exact rfl) (by omega) (by omega) ?_
        refine s_ldA0 ok rfl ?_
        refine s_ldI2 ok rfl ?_
        refine s_callV ok rfl rfl rfl rfl rfl rfl (ct_comesAt hp t0 t1) ?_
        refine s_sub ok rfl ?_
        refine s_goto ok rfl ?_
        refine s_retI ok rfl ⟨congrArg (fun z => some (Value.int (iI z))) (by first | (exfalso; omega) | (unfold sSm; (repeat (first | rw [if_pos (by omega)] | rw [if_neg (by omega)])); done)), rfl⟩
    show zGo _ _ _ _ _ _ 96 _
    refine s_ldI3 ok rfl ?_
    refine s_if_eq ok rfl (by first | exact hb _ _ | exact ⟨by omega, by omega⟩) (fun c97 => ?_) (fun c97 => ?_)
    · refine s_ci ok rfl ?_
      refine s_retI ok rfl ⟨congrArg (fun z => some (Value.int (iI z))) (by first | (exfalso; omega) | (unfold sSm; (repeat (first | rw [if_pos (by omega)] | rw [if_neg (by omega)])); done)), rfl⟩
    · refine s_ldA0 ok rfl ?_
      refine s_ldI2 ok rfl ?_
      refine s_ldA0 ok rfl ?_
      refine s_getF ok rfl rfl rfl rfl ?_
      refine s_ldI2 ok rfl ?_
      refine s_iald ok rfl (by exact rfl) (by exact rfl) (by omega) (by omega) ?_
      refine s_ci ok rfl ?_
      refine s_rem ok rfl ⟨by omega, by omega⟩ ⟨by omega, by omega⟩ (by omega) (by omega) ?_
      refine s_callV ok rfl rfl rfl rfl rfl rfl (ct_refundOf hp t0 t1 (by omega) (by omega)) ?_
      refine s_goto ok rfl ?_
      refine s_retI ok rfl ⟨congrArg (fun z => some (Value.int (iI z))) (by first | (exfalso; omega) | (unfold sSm; (repeat (first | rw [if_pos (by omega)] | rw [if_neg (by omega)])); done)), rfl⟩
  · refine s_ci ok rfl ?_
    refine s_goto ok rfl ?_
    refine s_stI3 ok rfl rfl ?_
    refine s_ldI1 ok rfl ?_
    refine s_sw ok rfl ?_
    refine zsw_c za (by first | exact hb _ _ | exact ⟨by omega, by omega⟩) (fun c16 => ?_) (fun c16_0 => ?_)
    · refine s_ldI3 ok rfl ?_
      refine s_if_eq ok rfl (by first | exact hb _ _ | exact ⟨by omega, by omega⟩) (fun c49 => ?_) (fun c49 => ?_)
      · refine s_ci ok rfl ?_
        refine s_retI ok rfl ⟨congrArg (fun z => some (Value.int (iI z))) (by first | (exfalso; omega) | (unfold sSm; (repeat (first | rw [if_pos (by omega)] | rw [if_neg (by omega)])); done)), rfl⟩
      · refine s_ci ok rfl ?_
        refine s_goto ok rfl ?_
        refine s_retI ok rfl ⟨congrArg (fun z => some (Value.int (iI z))) (by first | (exfalso; omega) | (unfold sSm; (repeat (first | rw [if_pos (by omega)] | rw [if_neg (by omega)])); done)), rfl⟩
    refine zsw_c za (by first | exact hb _ _ | exact ⟨by omega, by omega⟩) (fun c16 => ?_) (fun c16_1 => ?_)
    · refine s_ldI3 ok rfl ?_
      refine s_if_eq ok rfl (by first | exact hb _ _ | exact ⟨by omega, by omega⟩) (fun c59 => ?_) (fun c59 => ?_)
      · refine s_ci ok rfl ?_
        refine s_retI ok rfl ⟨congrArg (fun z => some (Value.int (iI z))) (by first | (exfalso; omega) | (unfold sSm; (repeat (first | rw [if_pos (by omega)] | rw [if_neg (by omega)])); done)), rfl⟩
      · refine s_ci ok rfl ?_
        refine s_goto ok rfl ?_
        refine s_retI ok rfl ⟨congrArg (fun z => some (Value.int (iI z))) (by first | (exfalso; omega) | (unfold sSm; (repeat (first | rw [if_pos (by omega)] | rw [if_neg (by omega)])); done)), rfl⟩
    refine zsw_c za (by first | exact hb _ _ | exact ⟨by omega, by omega⟩) (fun c16 => ?_) (fun c16_2 => ?_)
    · refine s_ldA0 ok rfl ?_
      refine s_getF ok rfl rfl rfl rfl ?_
      refine s_ldI2 ok rfl ?_
      refine s_iald ok rfl (by exact rfl) (by exact rfl) (by omega) (by omega) ?_
      refine s_retI ok rfl ⟨congrArg (fun z => some (Value.int (iI z))) (by first | (exfalso; omega) | (unfold sSm; (repeat (first | rw [if_pos (by omega)] | rw [if_neg (by omega)])); done)), rfl⟩
    refine zsw_c za (by first | exact hb _ _ | exact ⟨by omega, by omega⟩) (fun c16 => ?_) (fun c16_3 => ?_)
    · refine s_ldI3 ok rfl ?_
      refine s_if_eq ok rfl (by first | exact hb _ _ | exact ⟨by omega, by omega⟩) (fun c76 => ?_) (fun c76 => ?_)
      · refine s_ci ok rfl ?_
        refine s_retI ok rfl ⟨congrArg (fun z => some (Value.int (iI z))) (by first | (exfalso; omega) | (unfold sSm; (repeat (first | rw [if_pos (by omega)] | rw [if_neg (by omega)])); done)), rfl⟩
      · refine s_ldA0 ok rfl ?_
        refine s_getF ok rfl rfl rfl rfl ?_
        refine s_ldI2 ok rfl ?_
        refine s_iald ok rfl (by exact rfl) (by exact rfl) (by omega) (by omega) ?_
        refine s_ldA0 ok rfl ?_
        refine s_ldI2 ok rfl ?_
        refine s_callV ok rfl rfl rfl rfl rfl rfl (ct_comesAt hp t0 t1) ?_
        refine s_sub ok rfl ?_
        refine s_goto ok rfl ?_
        refine s_retI ok rfl ⟨congrArg (fun z => some (Value.int (iI z))) (by first | (exfalso; omega) | (unfold sSm; (repeat (first | rw [if_pos (by omega)] | rw [if_neg (by omega)])); done)), rfl⟩
    show zGo _ _ _ _ _ _ 96 _
    refine s_ldI3 ok rfl ?_
    refine s_if_eq ok rfl (by first | exact hb _ _ | exact ⟨by omega, by omega⟩) (fun c97 => ?_) (fun c97 => ?_)
    · refine s_ci ok rfl ?_
      refine s_retI ok rfl ⟨congrArg (fun z => some (Value.int (iI z))) (by first | (exfalso; omega) | (unfold sSm; (repeat (first | rw [if_pos (by omega)] | rw [if_neg (by omega)])); done)), rfl⟩
    · refine s_ldA0 ok rfl ?_
      refine s_ldI2 ok rfl ?_
      refine s_ldA0 ok rfl ?_
      refine s_getF ok rfl rfl rfl rfl ?_
      refine s_ldI2 ok rfl ?_
      refine s_iald ok rfl (by exact rfl) (by exact rfl) (by omega) (by omega) ?_
      refine s_ci ok rfl ?_
      refine s_rem ok rfl ⟨by omega, by omega⟩ ⟨by omega, by omega⟩ (by omega) (by omega) ?_
      refine s_callV ok rfl rfl rfl rfl rfl rfl (ct_refundOf hp t0 t1 (by omega) (by omega)) ?_
      refine s_goto ok rfl ?_
      refine s_retI ok rfl ⟨congrArg (fun z => some (Value.int (iI z))) (by first | (exfalso; omega) | (unfold sSm; (repeat (first | rw [if_pos (by omega)] | rw [if_neg (by omega)])); done)), rfl⟩
theorem dD_sm {g : Nat → Int → Int} {p : Int → Int} {w dd a t : Int} (q : dD g p w dd) (t0 : 0 ≤ t) (t1 : t < p 6) : sSm g p a t = sSm (dN p w dd) p a t := by
  unfold sSm
  rw [q.1 69 (by omega) (by omega) t t0 t1, q.1 70 (by omega) (by omega) t t0 t1, q.1 71 (by omega) (by omega) t t0 t1, q.1 73 (by omega) (by omega) t t0 t1]
theorem zmxs_cg {f g : Int → Int} : ∀ c : Nat, (∀ j : Int, 0 ≤ j → j < c → f j = g j) → zmxs f c = zmxs g c
  | 0, _ => rfl
  | c + 1, hj => by
    have i := zmxs_cg c (fun j j0 j1 => hj j j0 (by omega))
    unfold zmxs
    rw [i, hj c (by omega) (by omega)]
theorem lp_sums {E : zE} {d : Nat} {k : Nat → Nat × Nat} {h : Nat → Int → Int} {r : Nat → Int → Option Nat} {l : Nat → Nat → Int64} {n : Nat} {Q : zQ} {p : Int → Int} {w dd : Int} (ep : h 60 = p) (ew : h 59 17 = w) (ed : h 59 18 = dd) (hd : dP h) (h2 : zb dd) {a : Int} {g : Nat → Int → Int} (za : zb a) (hE : dE h g) (hD : dD g p w dd) {np : Nat} (hn : p 6 = (np : Int)) (hQ : Q (some (.int (iI (zsum (sSm (dN p w dd) p a) np)))) (zJ (k, g, r, l, n))) : ∀ c : Nat, ∀ m : Nat, np < m + c → m ≤ np → zGo E (d + 7) M_X12_sums 0 0 Q 29 ([some (.ref 59), some (.int (iI (a))), some (.int (iI (zsum (sSm (dN p w dd) p a) m))), some (.int (iI ((m : Int))))], [], zJ (k, g, r, l, n), 0, 0) := by
  have ok := ok_X12_sums
  intro c
  induction c with
  | zero =>
    intros
    omega
  | succ c ih =>
    intro m g1 g2
    subst ep
    subst ew
    subst ed
    have i60 : g 60 = h 60 := hE.e60
    have i6 : g 60 6 = h 60 6 := by rw [i60]
    have p6 := hd.1.2.2.2.2.2.2.2.2.2.2.2.2.2.1
    refine s_ldI3 ok rfl ?_
    refine s_ldA0 ok rfl ?_
    refine s_getF ok rfl rfl rfl rfl ?_
    refine s_ci ok rfl ?_
    refine s_iald ok rfl (by exact rfl) (by exact rfl) (by omega) (by omega) ?_
    refine s_c_ge ok rfl (by first | exact hb _ _ | exact ⟨by omega, by omega⟩) (by first | exact hb _ _ | exact ⟨by omega, by omega⟩) (fun c37 => ?_) (fun c37 => ?_)
    · refine s_ldI2 ok rfl ?_
      refine s_retI ok rfl (by rw [show np = m by omega] at hQ; exact hQ)
    · have bb := (dB_dN (dd := h 59 18) hd.1 hd.2.2.2.2 (m : Int)).1
      have bo := dOn_dN (p := h 60) (w := h 59 17) (dd := h 59 18) (m : Int)
      have eb := hD.1 69 (by omega) (by omega) (m : Int) (by omega) (by omega)
      have ea := hD.1 71 (by omega) (by omega) (m : Int) (by omega) (by omega)
      have es := dD_sm (a := a) hD (t := (m : Int)) (by omega) (by omega)
      refine s_ldI2 ok rfl ?_
      refine s_ldA0 ok rfl ?_
      refine s_ldI1 ok rfl ?_
      refine s_ldI3 ok rfl ?_
      refine s_callV ok rfl rfl rfl rfl rfl rfl (ct_sumOf (by rw [i60]; exact hd.1) za (by omega) (by omega) (hE.2.2.2.2.1 _) ⟨by omega, by omega⟩ (by rw [ea, eb]; exact bo)) ?_
      rw [i60, es]
      refine s_add ok rfl ?_
      refine s_stI2 ok rfl rfl ?_
      refine s_inc3 ok rfl rfl ?_
      refine s_goto ok rfl ?_
      exact ih (m + 1) (by omega) (by omega)
theorem ct_sums {E : zE} {d : Nat} {k : Nat → Nat × Nat} {h : Nat → Int → Int} {r : Nat → Int → Option Nat} {l : Nat → Nat → Int64} {n : Nat} {p : Int → Int} {w dd : Int} (ep : h 60 = p) (ew : h 59 17 = w) (ed : h 59 18 = dd) (hd : dP h) (h2 : zb dd) {a : Int} (za : zb a) : zCT E (d + 7) M_X12_sums [.ref 59, .int (iI (a))] (zJ (k, h, r, l, n)) 0 0 (zVx (.int (iI (if 0 ≤ a ∧ a ≤ 5 then (if a = 5 then zmxs (dN p w dd 71) (p 6).toNat else zsum (sSm (dN p w dd) p a) (p 6).toNat) else -1))) (zG k r l n (dE h))) := by
  have ok := ok_X12_sums
  refine zCT_of pn_X12_sums (Nat.le_of_ble_eq_true rfl) ?_
  show zGo _ _ _ _ _ _ 0 ([some (.ref 59), some (.int (iI (a))), none, none], [], _, _, _)
  subst ep
  subst ew
  subst ed
  refine s_ldI1 ok rfl ?_
  refine s_ci ok rfl ?_
  refine s_ci ok rfl ?_
  refine s_callS ok rfl rfl rfl rfl (ct_isIn za ⟨by omega, by omega⟩ ⟨by omega, by omega⟩) ?_
  refine s_if_eq ok rfl zif01 (fun c6 => ?_) (fun c6 => ?_)
  · refine s_ci ok rfl ?_
    refine s_retI ok rfl ⟨congrArg (fun z => some (Value.int (iI z))) (if_neg (fun q => zif_f c6 q)).symm, _, rfl, dE.rf hd⟩
  · have yt := zif_t c6
    obtain ⟨hE, hD⟩ := dE_goes hd
    have p6 := hd.1.2.2.2.2.2.2.2.2.2.2.2.2.2.1
    have p6a := hd.1.2.2.2.2.2.2.2.2.2.2.2.2.1
    have em := zmxs_cg (f := sGoes h 71) (g := dN (h 60) (h 59 17) (h 59 18) 71) (h 60 6).toNat (fun j j0 j1 => hD.1 71 (by omega) (by omega) j j0 (by omega))
    refine s_ldA0 ok rfl ?_
    refine s_callVv ok rfl rfl rfl rfl rfl rfl (ct_goes hd (by exact h2)) ?_
    refine s_ldI1 ok rfl ?_
    refine s_ci ok rfl ?_
    refine s_c_eq ok rfl za ⟨by omega, by omega⟩ (fun c17 => ?_) (fun c17 => ?_)
    · refine s_ldA0 ok rfl ?_
      refine s_callV ok rfl rfl rfl rfl rfl rfl (ct_latest (np := (h 60 6).toNat) hE.2.2.2.2.1 (by rw [hE.e60]; omega) (by omega)) ?_
      rw [em]
      refine s_retI ok rfl ⟨congrArg (fun z => some (Value.int (iI z))) ((if_pos yt).trans (if_pos c17)).symm, _, rfl, hE⟩
    · refine s_ci ok rfl ?_
      refine s_stI2 ok rfl rfl ?_
      refine s_ci ok rfl ?_
      refine s_stI3 ok rfl rfl ?_
      exact lp_sums (E := E) (d := d) (k := k) (r := r) (l := l) (n := n) (h := h) rfl rfl rfl hd h2 za hE hD (np := (h 60 6).toNat) (by omega) (Q := zVx (.int (iI (if 0 ≤ a ∧ a ≤ 5 then (if a = 5 then zmxs (dN (h 60) (h 59 17) (h 59 18) 71) (h 60 6).toNat else zsum (sSm (dN (h 60) (h 59 17) (h 59 18)) (h 60) a) (h 60 6).toNat) else -1))) (zG k r l n (dE h))) ⟨congrArg (fun z => some (Value.int (iI z))) ((if_pos yt).trans (if_neg c17)).symm, _, rfl, hE⟩ ((h 60 6).toNat + 1) 0 (by omega) (by omega)
