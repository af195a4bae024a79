/-! the law: its cases -/
section ZL
variable {E : zE} {d : Nat} {M : zM} {tb : List ExceptionTableEntry} {R : Room} {Z : zEd} {P : Nat → zOp} {pc nx tg bc bs : Nat} {ls : List (Option Value)} {st : List Value} {σ : zS} {k : Nat → Nat × Nat} {h : Nat → Int → Int} {r : Nat → Int → Option Nat} {l : Nat → Nat → Int64} {n : Nat}
theorem ty_scr (ok : zOKr M tb R d P) {L : Nat} {a : Int} {s0 : Int → Int} (hP : P pc = oIald 21 nx) (hq : k 0 = (21, L)) (hs : h 0 = s0) (hL : Nat.ble L 100000 = true) (h0 : 0 ≤ a) (h1 : a < L) (hk : zGy E M tb R Z nx (ls, .int (iI (s0 a)) :: st, zJ (k, h, r, l, n), bc, bs)) : zGy E M tb R Z pc (ls, .int (iI a) :: .ref 0 :: st, zJ (k, h, r, l, n), bc, bs) := by
  subst hs
  exact ty_iald ok hP hq hL h0 h1 hk
theorem ty_same (ok : zOKr M tb R d P) {x : Int32} (hP : P pc = oCmp (fun x y => x = y) tg nx) (hk : zGy E M tb R Z tg (ls, st, σ, bc, bs)) : zGy E M tb R Z pc (ls, .int x :: .int x :: st, σ, bc, bs) := by
  have e := ty_c_eq (E := E) (Z := Z) (ls := ls) (st := st) (σ := σ) (bc := bc) (bs := bs) (a := x.toInt) (b := x.toInt) ok hP (zb_of x) (zb_of x) (fun _ => hk) (fun z => absurd rfl z)
  rw [iI_of] at e
  exact e
theorem lgc_self (x : Int64) : lg_cmp x x = iI 0 := by
  unfold lg_cmp
  rw [iI_0]
  simp
theorem ty_samel (ok : zOKr M tb R d P) {x : Int64} {n2 : Nat} (hP : P pc = oLcmp nx) (hP2 : P nx = oIf (fun x => x = 0) tg n2) (hk : zGy E M tb R Z tg (ls, st, σ, bc, bs)) : zGy E M tb R Z pc (ls, .long x :: .long x :: st, σ, bc, bs) := by
  refine ty_lcmp ok hP ?_
  rw [lgc_self]
  exact ty_if_eq ok hP2 ⟨by decide, by decide⟩ (fun _ => hk) (fun z => absurd rfl z)
theorem ty_lald (ok : zOKr M tb R d P) {x L j : Nat} {v : Int64} (hP : P pc = oLald nx) (hq : zkF k x = (20, L)) (hL : Nat.ble L 100000 = true) (hj : j < L) (hv : l x j = v) (hk : zGy E M tb R Z nx (ls, .long v :: st, zJ (k, h, r, l, n), bc, bs)) : zGy E M tb R Z pc (ls, .int (iI (j : Int)) :: .ref x :: st, zJ (k, h, r, l, n), bc, bs) := by
  subst hv
  exact zstepy ok hP ⟨j, L, hq, Nat.le_of_ble_eq_true hL, (iI_nat j).symm, hj, hk⟩
end ZL
theorem lc_day {E : zE} {tb : List ExceptionTableEntry} {R : Room} {Z : zEd} {L : Nat} {k : Nat → Nat × Nat} {h : Nat → Int → Int} {r : Nat → Int → Option Nat} {l : Nat → Nat → Int64} {n : Nat} {i : Int} {bc bs : Nat} {x5 x6 x7 : Option Value} (ok : zOKr M_L_law tb R 11 P_L_law) (I : LI L k h r n) (i0 : 0 ≤ i) (iL : i + 6 ≤ L) (hL : Nat.ble L 100000 = true) (b1 : 34 ≤ bc) (b2 : 102 ≤ bs)
    (K : ∀ y5 y6 y7 k3 g3 r3 l3 n3 bc2 bs2, LI L k3 g3 r3 n3 → bc ≤ bc2 + 34 → bs ≤ bs2 + 102 → zGy E M_L_law tb R Z 1933 ([some (.ref 0), some (.ref 3), some (.ref 59), some (.ref 86), some (.int (iI i)), y5, y6, y7], [], zJ (k3, g3, r3, l3, n3), bc2, bs2)) : zGy E M_L_law tb R Z 256 ([some (.ref 0), some (.ref 3), some (.ref 59), some (.ref 86), some (.int (iI i)), x5, x6, x7], [], zJ (k, h, r, l, n), bc, bs) := by
  refine ty_ldA1 ok rfl ?_
  refine ty_ldA0 ok rfl ?_
  refine ty_ldI4 ok rfl ?_
  refine ty_ci ok rfl ?_
  refine ty_add ok rfl ?_
  refine ty_scr ok rfl I.2.1.1 rfl hL (by omega) (by omega) ?_
  obtain ⟨x, mc, ms, ⟨m1, m2⟩, hM⟩ := la_day (E := E) (l := l) I (I.2.1.2 _)
  refine ty_callVg ok rfl rfl rfl rfl (by exact rfl) rfl hM (by omega) (by omega) (fun σ9 z9 => ?_)
  obtain ⟨k2, g, r2, l2, n2, rfl, ⟨hk0, hg0⟩, hM2⟩ := z9
  refine ty_ldA2 ok rfl ?_
  refine ty_ldA0 ok rfl ?_
  refine ty_ldI4 ok rfl ?_
  refine ty_ci ok rfl ?_
  refine ty_add ok rfl ?_
  refine ty_scr ok rfl hk0 hg0 hL (by omega) (by omega) ?_
  refine ty_callVg ok rfl rfl rfl rfl (by exact rfl) rfl hM2 (Nat.zero_le _) (Nat.zero_le _) (fun σ9 z9 => ?_)
  obtain ⟨k3, g3, r3, l3, n3, rfl, -, I3⟩ := z9
  refine ty_same ok rfl ?_
  exact K _ _ _ _ _ _ _ _ _ _ I3 (by omega) (by omega)
theorem lc_traveller {E : zE} {tb : List ExceptionTableEntry} {R : Room} {Z : zEd} {L : Nat} {k : Nat → Nat × Nat} {h : Nat → Int → Int} {r : Nat → Int → Option Nat} {l : Nat → Nat → Int64} {n : Nat} {i : Int} {bc bs : Nat} {x5 x6 x7 : Option Value} (ok : zOKr M_L_law tb R 11 P_L_law) (I : LI L k h r n) (i0 : 0 ≤ i) (iL : i + 6 ≤ L) (hL : Nat.ble L 100000 = true) (b1 : 34 ≤ bc) (b2 : 102 ≤ bs)
    (K : ∀ y5 y6 y7 k3 g3 r3 l3 n3 bc2 bs2, LI L k3 g3 r3 n3 → bc ≤ bc2 + 34 → bs ≤ bs2 + 102 → zGy E M_L_law tb R Z 1933 ([some (.ref 0), some (.ref 3), some (.ref 59), some (.ref 86), some (.int (iI i)), y5, y6, y7], [], zJ (k3, g3, r3, l3, n3), bc2, bs2)) : zGy E M_L_law tb R Z 281 ([some (.ref 0), some (.ref 3), some (.ref 59), some (.ref 86), some (.int (iI i)), x5, x6, x7], [], zJ (k, h, r, l, n), bc, bs) := by
  refine ty_ldA1 ok rfl ?_
  refine ty_ldA0 ok rfl ?_
  refine ty_ldI4 ok rfl ?_
  refine ty_ci ok rfl ?_
  refine ty_add ok rfl ?_
  refine ty_scr ok rfl I.2.1.1 rfl hL (by omega) (by omega) ?_
  refine ty_ldA0 ok rfl ?_
  refine ty_ldI4 ok rfl ?_
  refine ty_ci ok rfl ?_
  refine ty_add ok rfl ?_
  refine ty_scr ok rfl I.2.1.1 rfl hL (by omega) (by omega) ?_
  obtain ⟨x, mc, ms, ⟨m1, m2⟩, hM⟩ := la_traveller (E := E) (l := l) I (I.2.1.2 _) (I.2.1.2 _)
  refine ty_callVg ok rfl rfl rfl rfl (by exact rfl) rfl hM (by omega) (by omega) (fun σ9 z9 => ?_)
  obtain ⟨k2, g, r2, l2, n2, rfl, ⟨hk0, hg0⟩, hM2⟩ := z9
  refine ty_ldA2 ok rfl ?_
  refine ty_ldA0 ok rfl ?_
  refine ty_ldI4 ok rfl ?_
  refine ty_ci ok rfl ?_
  refine ty_add ok rfl ?_
  refine ty_scr ok rfl hk0 hg0 hL (by omega) (by omega) ?_
  refine ty_ldA0 ok rfl ?_
  refine ty_ldI4 ok rfl ?_
  refine ty_ci ok rfl ?_
  refine ty_add ok rfl ?_
  refine ty_scr ok rfl hk0 hg0 hL (by omega) (by omega) ?_
  refine ty_callVg ok rfl rfl rfl rfl (by exact rfl) rfl hM2 (Nat.zero_le _) (Nat.zero_le _) (fun σ9 z9 => ?_)
  obtain ⟨k3, g3, r3, l3, n3, rfl, -, I3⟩ := z9
  refine ty_same ok rfl ?_
  exact K _ _ _ _ _ _ _ _ _ _ I3 (by omega) (by omega)
theorem lc_takes {E : zE} {tb : List ExceptionTableEntry} {R : Room} {Z : zEd} {L : Nat} {k : Nat → Nat × Nat} {h : Nat → Int → Int} {r : Nat → Int → Option Nat} {l : Nat → Nat → Int64} {n : Nat} {i : Int} {bc bs : Nat} {x5 x6 x7 : Option Value} (ok : zOKr M_L_law tb R 11 P_L_law) (I : LI L k h r n) (i0 : 0 ≤ i) (iL : i + 6 ≤ L) (hL : Nat.ble L 100000 = true) (b1 : 34 ≤ bc) (b2 : 102 ≤ bs)
    (K : ∀ y5 y6 y7 k3 g3 r3 l3 n3 bc2 bs2, LI L k3 g3 r3 n3 → bc ≤ bc2 + 34 → bs ≤ bs2 + 102 → zGy E M_L_law tb R Z 1933 ([some (.ref 0), some (.ref 3), some (.ref 59), some (.ref 86), some (.int (iI i)), y5, y6, y7], [], zJ (k3, g3, r3, l3, n3), bc2, bs2)) : zGy E M_L_law tb R Z 318 ([some (.ref 0), some (.ref 3), some (.ref 59), some (.ref 86), some (.int (iI i)), x5, x6, x7], [], zJ (k, h, r, l, n), bc, bs) := by
  refine ty_ldA1 ok rfl ?_
  refine ty_ldA0 ok rfl ?_
  refine ty_ldI4 ok rfl ?_
  refine ty_ci ok rfl ?_
  refine ty_add ok rfl ?_
  refine ty_scr ok rfl I.2.1.1 rfl hL (by omega) (by omega) ?_
  refine ty_ldA0 ok rfl ?_
  refine ty_ldI4 ok rfl ?_
  refine ty_ci ok rfl ?_
  refine ty_add ok rfl ?_
  refine ty_scr ok rfl I.2.1.1 rfl hL (by omega) (by omega) ?_
  obtain ⟨x, mc, ms, ⟨m1, m2⟩, hM⟩ := la_takes (E := E) (l := l) I (I.2.1.2 _) (I.2.1.2 _)
  refine ty_callVg ok rfl rfl rfl rfl (by exact rfl) rfl hM (by omega) (by omega) (fun σ9 z9 => ?_)
  obtain ⟨k2, g, r2, l2, n2, rfl, ⟨hk0, hg0⟩, hM2⟩ := z9
  refine ty_ldA2 ok rfl ?_
  refine ty_ldA0 ok rfl ?_
  refine ty_ldI4 ok rfl ?_
  refine ty_ci ok rfl ?_
  refine ty_add ok rfl ?_
  refine ty_scr ok rfl hk0 hg0 hL (by omega) (by omega) ?_
  refine ty_ldA0 ok rfl ?_
  refine ty_ldI4 ok rfl ?_
  refine ty_ci ok rfl ?_
  refine ty_add ok rfl ?_
  refine ty_scr ok rfl hk0 hg0 hL (by omega) (by omega) ?_
  refine ty_callVg ok rfl rfl rfl rfl (by exact rfl) rfl hM2 (Nat.zero_le _) (Nat.zero_le _) (fun σ9 z9 => ?_)
  obtain ⟨k3, g3, r3, l3, n3, rfl, -, I3⟩ := z9
  refine ty_same ok rfl ?_
  exact K _ _ _ _ _ _ _ _ _ _ I3 (by omega) (by omega)
theorem lc_refund {E : zE} {tb : List ExceptionTableEntry} {R : Room} {Z : zEd} {L : Nat} {k : Nat → Nat × Nat} {h : Nat → Int → Int} {r : Nat → Int → Option Nat} {l : Nat → Nat → Int64} {n : Nat} {i : Int} {bc bs : Nat} {x5 x6 x7 : Option Value} (ok : zOKr M_L_law tb R 11 P_L_law) (I : LI L k h r n) (i0 : 0 ≤ i) (iL : i + 6 ≤ L) (hL : Nat.ble L 100000 = true) (b1 : 34 ≤ bc) (b2 : 102 ≤ bs)
    (K : ∀ y5 y6 y7 k3 g3 r3 l3 n3 bc2 bs2, LI L k3 g3 r3 n3 → bc ≤ bc2 + 34 → bs ≤ bs2 + 102 → zGy E M_L_law tb R Z 1933 ([some (.ref 0), some (.ref 3), some (.ref 59), some (.ref 86), some (.int (iI i)), y5, y6, y7], [], zJ (k3, g3, r3, l3, n3), bc2, bs2)) : zGy E M_L_law tb R Z 355 ([some (.ref 0), some (.ref 3), some (.ref 59), some (.ref 86), some (.int (iI i)), x5, x6, x7], [], zJ (k, h, r, l, n), bc, bs) := by
  refine ty_ldA1 ok rfl ?_
  refine ty_ldA0 ok rfl ?_
  refine ty_ldI4 ok rfl ?_
  refine ty_ci ok rfl ?_
  refine ty_add ok rfl ?_
  refine ty_scr ok rfl I.2.1.1 rfl hL (by omega) (by omega) ?_
  refine ty_ldA0 ok rfl ?_
  refine ty_ldI4 ok rfl ?_
  refine ty_ci ok rfl ?_
  refine ty_add ok rfl ?_
  refine ty_scr ok rfl I.2.1.1 rfl hL (by omega) (by omega) ?_
  obtain ⟨x, mc, ms, ⟨m1, m2⟩, hM⟩ := la_refund (E := E) (l := l) I (I.2.1.2 _) (I.2.1.2 _)
  refine ty_callVg ok rfl rfl rfl rfl (by exact rfl) rfl hM (by omega) (by omega) (fun σ9 z9 => ?_)
  obtain ⟨k2, g, r2, l2, n2, rfl, ⟨hk0, hg0⟩, hM2⟩ := z9
  refine ty_ldA2 ok rfl ?_
  refine ty_ldA0 ok rfl ?_
  refine ty_ldI4 ok rfl ?_
  refine ty_ci ok rfl ?_
  refine ty_add ok rfl ?_
  refine ty_scr ok rfl hk0 hg0 hL (by omega) (by omega) ?_
  refine ty_ldA0 ok rfl ?_
  refine ty_ldI4 ok rfl ?_
  refine ty_ci ok rfl ?_
  refine ty_add ok rfl ?_
  refine ty_scr ok rfl hk0 hg0 hL (by omega) (by omega) ?_
  refine ty_callVg ok rfl rfl rfl rfl (by exact rfl) rfl hM2 (Nat.zero_le _) (Nat.zero_le _) (fun σ9 z9 => ?_)
  obtain ⟨k3, g3, r3, l3, n3, rfl, -, I3⟩ := z9
  refine ty_same ok rfl ?_
  exact K _ _ _ _ _ _ _ _ _ _ I3 (by omega) (by omega)
theorem lc_comes {E : zE} {tb : List ExceptionTableEntry} {R : Room} {Z : zEd} {L : Nat} {k : Nat → Nat × Nat} {h : Nat → Int → Int} {r : Nat → Int → Option Nat} {l : Nat → Nat → Int64} {n : Nat} {i : Int} {bc bs : Nat} {x5 x6 x7 : Option Value} (ok : zOKr M_L_law tb R 11 P_L_law) (I : LI L k h r n) (i0 : 0 ≤ i) (iL : i + 6 ≤ L) (hL : Nat.ble L 100000 = true) (b1 : 34 ≤ bc) (b2 : 102 ≤ bs)
    (K : ∀ y5 y6 y7 k3 g3 r3 l3 n3 bc2 bs2, LI L k3 g3 r3 n3 → bc ≤ bc2 + 34 → bs ≤ bs2 + 102 → zGy E M_L_law tb R Z 1933 ([some (.ref 0), some (.ref 3), some (.ref 59), some (.ref 86), some (.int (iI i)), y5, y6, y7], [], zJ (k3, g3, r3, l3, n3), bc2, bs2)) : zGy E M_L_law tb R Z 392 ([some (.ref 0), some (.ref 3), some (.ref 59), some (.ref 86), some (.int (iI i)), x5, x6, x7], [], zJ (k, h, r, l, n), bc, bs) := by
  refine ty_ldA1 ok rfl ?_
  refine ty_ldA0 ok rfl ?_
  refine ty_ldI4 ok rfl ?_
  refine ty_ci ok rfl ?_
  refine ty_add ok rfl ?_
  refine ty_scr ok rfl I.2.1.1 rfl hL (by omega) (by omega) ?_
  refine ty_ldA0 ok rfl ?_
  refine ty_ldI4 ok rfl ?_
  refine ty_ci ok rfl ?_
  refine ty_add ok rfl ?_
  refine ty_scr ok rfl I.2.1.1 rfl hL (by omega) (by omega) ?_
  refine ty_ldA0 ok rfl ?_
  refine ty_ldI4 ok rfl ?_
  refine ty_ci ok rfl ?_
  refine ty_add ok rfl ?_
  refine ty_scr ok rfl I.2.1.1 rfl hL (by omega) (by omega) ?_
  refine ty_ldA0 ok rfl ?_
  refine ty_ldI4 ok rfl ?_
  refine ty_ci ok rfl ?_
  refine ty_add ok rfl ?_
  refine ty_scr ok rfl I.2.1.1 rfl hL (by omega) (by omega) ?_
  obtain ⟨x, mc, ms, ⟨m1, m2⟩, hM⟩ := la_comes (E := E) (l := l) I (I.2.1.2 _) (I.2.1.2 _) (I.2.1.2 _) (I.2.1.2 _)
  refine ty_callVg ok rfl rfl rfl rfl (by exact rfl) rfl hM (by omega) (by omega) (fun σ9 z9 => ?_)
  obtain ⟨k2, g, r2, l2, n2, rfl, ⟨hk0, hg0⟩, hM2⟩ := z9
  refine ty_ldA2 ok rfl ?_
  refine ty_ldA0 ok rfl ?_
  refine ty_ldI4 ok rfl ?_
  refine ty_ci ok rfl ?_
  refine ty_add ok rfl ?_
  refine ty_scr ok rfl hk0 hg0 hL (by omega) (by omega) ?_
  refine ty_ldA0 ok rfl ?_
  refine ty_ldI4 ok rfl ?_
  refine ty_ci ok rfl ?_
  refine ty_add ok rfl ?_
  refine ty_scr ok rfl hk0 hg0 hL (by omega) (by omega) ?_
  refine ty_ldA0 ok rfl ?_
  refine ty_ldI4 ok rfl ?_
  refine ty_ci ok rfl ?_
  refine ty_add ok rfl ?_
  refine ty_scr ok rfl hk0 hg0 hL (by omega) (by omega) ?_
  refine ty_ldA0 ok rfl ?_
  refine ty_ldI4 ok rfl ?_
  refine ty_ci ok rfl ?_
  refine ty_add ok rfl ?_
  refine ty_scr ok rfl hk0 hg0 hL (by omega) (by omega) ?_
  refine ty_callVg ok rfl rfl rfl rfl (by exact rfl) rfl hM2 (Nat.zero_le _) (Nat.zero_le _) (fun σ9 z9 => ?_)
  obtain ⟨k3, g3, r3, l3, n3, rfl, -, I3⟩ := z9
  refine ty_same ok rfl ?_
  exact K _ _ _ _ _ _ _ _ _ _ I3 (by omega) (by omega)
theorem lc_leaves {E : zE} {tb : List ExceptionTableEntry} {R : Room} {Z : zEd} {L : Nat} {k : Nat → Nat × Nat} {h : Nat → Int → Int} {r : Nat → Int → Option Nat} {l : Nat → Nat → Int64} {n : Nat} {i : Int} {bc bs : Nat} {x5 x6 x7 : Option Value} (ok : zOKr M_L_law tb R 11 P_L_law) (I : LI L k h r n) (i0 : 0 ≤ i) (iL : i + 6 ≤ L) (hL : Nat.ble L 100000 = true) (b1 : 34 ≤ bc) (b2 : 102 ≤ bs)
    (K : ∀ y5 y6 y7 k3 g3 r3 l3 n3 bc2 bs2, LI L k3 g3 r3 n3 → bc ≤ bc2 + 34 → bs ≤ bs2 + 102 → zGy E M_L_law tb R Z 1933 ([some (.ref 0), some (.ref 3), some (.ref 59), some (.ref 86), some (.int (iI i)), y5, y6, y7], [], zJ (k3, g3, r3, l3, n3), bc2, bs2)) : zGy E M_L_law tb R Z 453 ([some (.ref 0), some (.ref 3), some (.ref 59), some (.ref 86), some (.int (iI i)), x5, x6, x7], [], zJ (k, h, r, l, n), bc, bs) := by
  refine ty_ldA1 ok rfl ?_
  refine ty_ldA0 ok rfl ?_
  refine ty_ldI4 ok rfl ?_
  refine ty_ci ok rfl ?_
  refine ty_add ok rfl ?_
  refine ty_scr ok rfl I.2.1.1 rfl hL (by omega) (by omega) ?_
  obtain ⟨x, mc, ms, ⟨m1, m2⟩, hM⟩ := la_leaves (E := E) (l := l) I (I.2.1.2 _)
  refine ty_callVg ok rfl rfl rfl rfl (by exact rfl) rfl hM (by omega) (by omega) (fun σ9 z9 => ?_)
  obtain ⟨k2, g, r2, l2, n2, rfl, ⟨hk0, hg0⟩, hM2⟩ := z9
  refine ty_ldA2 ok rfl ?_
  refine ty_ldA0 ok rfl ?_
  refine ty_ldI4 ok rfl ?_
  refine ty_ci ok rfl ?_
  refine ty_add ok rfl ?_
  refine ty_scr ok rfl hk0 hg0 hL (by omega) (by omega) ?_
  refine ty_callVg ok rfl rfl rfl rfl (by exact rfl) rfl hM2 (Nat.zero_le _) (Nat.zero_le _) (fun σ9 z9 => ?_)
  obtain ⟨k3, g3, r3, l3, n3, rfl, -, I3⟩ := z9
  refine ty_same ok rfl ?_
  exact K _ _ _ _ _ _ _ _ _ _ I3 (by omega) (by omega)
theorem lc_base {E : zE} {tb : List ExceptionTableEntry} {R : Room} {Z : zEd} {L : Nat} {k : Nat → Nat × Nat} {h : Nat → Int → Int} {r : Nat → Int → Option Nat} {l : Nat → Nat → Int64} {n : Nat} {i : Int} {bc bs : Nat} {x5 x6 x7 : Option Value} (ok : zOKr M_L_law tb R 11 P_L_law) (I : LI L k h r n) (i0 : 0 ≤ i) (iL : i + 6 ≤ L) (hL : Nat.ble L 100000 = true) (b1 : 34 ≤ bc) (b2 : 102 ≤ bs)
    (K : ∀ y5 y6 y7 k3 g3 r3 l3 n3 bc2 bs2, LI L k3 g3 r3 n3 → bc ≤ bc2 + 34 → bs ≤ bs2 + 102 → zGy E M_L_law tb R Z 1933 ([some (.ref 0), some (.ref 3), some (.ref 59), some (.ref 86), some (.int (iI i)), y5, y6, y7], [], zJ (k3, g3, r3, l3, n3), bc2, bs2)) : zGy E M_L_law tb R Z 478 ([some (.ref 0), some (.ref 3), some (.ref 59), some (.ref 86), some (.int (iI i)), x5, x6, x7], [], zJ (k, h, r, l, n), bc, bs) := by
  refine ty_ldA1 ok rfl ?_
  refine ty_ldA0 ok rfl ?_
  refine ty_ldI4 ok rfl ?_
  refine ty_ci ok rfl ?_
  refine ty_add ok rfl ?_
  refine ty_scr ok rfl I.2.1.1 rfl hL (by omega) (by omega) ?_
  refine ty_ldA0 ok rfl ?_
  refine ty_ldI4 ok rfl ?_
  refine ty_ci ok rfl ?_
  refine ty_add ok rfl ?_
  refine ty_scr ok rfl I.2.1.1 rfl hL (by omega) (by omega) ?_
  obtain ⟨x, mc, ms, ⟨m1, m2⟩, hM⟩ := la_base (E := E) (l := l) I (I.2.1.2 _) (I.2.1.2 _)
  refine ty_callVg ok rfl rfl rfl rfl (by exact rfl) rfl hM (by omega) (by omega) (fun σ9 z9 => ?_)
  obtain ⟨k2, g, r2, l2, n2, rfl, ⟨hk0, hg0⟩, hM2⟩ := z9
  refine ty_ldA2 ok rfl ?_
  refine ty_ldA0 ok rfl ?_
  refine ty_ldI4 ok rfl ?_
  refine ty_ci ok rfl ?_
  refine ty_add ok rfl ?_
  refine ty_scr ok rfl hk0 hg0 hL (by omega) (by omega) ?_
  refine ty_ldA0 ok rfl ?_
  refine ty_ldI4 ok rfl ?_
  refine ty_ci ok rfl ?_
  refine ty_add ok rfl ?_
  refine ty_scr ok rfl hk0 hg0 hL (by omega) (by omega) ?_
  refine ty_callVg ok rfl rfl rfl rfl (by exact rfl) rfl hM2 (Nat.zero_le _) (Nat.zero_le _) (fun σ9 z9 => ?_)
  obtain ⟨k3, g3, r3, l3, n3, rfl, -, I3⟩ := z9
  refine ty_same ok rfl ?_
  exact K _ _ _ _ _ _ _ _ _ _ I3 (by omega) (by omega)
theorem lc_train {E : zE} {tb : List ExceptionTableEntry} {R : Room} {Z : zEd} {L : Nat} {k : Nat → Nat × Nat} {h : Nat → Int → Int} {r : Nat → Int → Option Nat} {l : Nat → Nat → Int64} {n : Nat} {i : Int} {bc bs : Nat} {x5 x6 x7 : Option Value} (ok : zOKr M_L_law tb R 11 P_L_law) (I : LI L k h r n) (i0 : 0 ≤ i) (iL : i + 6 ≤ L) (hL : Nat.ble L 100000 = true) (b1 : 34 ≤ bc) (b2 : 102 ≤ bs)
    (K : ∀ y5 y6 y7 k3 g3 r3 l3 n3 bc2 bs2, LI L k3 g3 r3 n3 → bc ≤ bc2 + 34 → bs ≤ bs2 + 102 → zGy E M_L_law tb R Z 1933 ([some (.ref 0), some (.ref 3), some (.ref 59), some (.ref 86), some (.int (iI i)), y5, y6, y7], [], zJ (k3, g3, r3, l3, n3), bc2, bs2)) : zGy E M_L_law tb R Z 515 ([some (.ref 0), some (.ref 3), some (.ref 59), some (.ref 86), some (.int (iI i)), x5, x6, x7], [], zJ (k, h, r, l, n), bc, bs) := by
  refine ty_ldA1 ok rfl ?_
  refine ty_ldA0 ok rfl ?_
  refine ty_ldI4 ok rfl ?_
  refine ty_ci ok rfl ?_
  refine ty_add ok rfl ?_
  refine ty_scr ok rfl I.2.1.1 rfl hL (by omega) (by omega) ?_
  refine ty_ldA0 ok rfl ?_
  refine ty_ldI4 ok rfl ?_
  refine ty_ci ok rfl ?_
  refine ty_add ok rfl ?_
  refine ty_scr ok rfl I.2.1.1 rfl hL (by omega) (by omega) ?_
  obtain ⟨x, mc, ms, ⟨m1, m2⟩, hM⟩ := la_train (E := E) (l := l) I (I.2.1.2 _) (I.2.1.2 _)
  refine ty_callVg ok rfl rfl rfl rfl (by exact rfl) rfl hM (by omega) (by omega) (fun σ9 z9 => ?_)
  obtain ⟨k2, g, r2, l2, n2, rfl, ⟨hk0, hg0⟩, hM2⟩ := z9
  refine ty_ldA2 ok rfl ?_
  refine ty_ldA0 ok rfl ?_
  refine ty_ldI4 ok rfl ?_
  refine ty_ci ok rfl ?_
  refine ty_add ok rfl ?_
  refine ty_scr ok rfl hk0 hg0 hL (by omega) (by omega) ?_
  refine ty_ldA0 ok rfl ?_
  refine ty_ldI4 ok rfl ?_
  refine ty_ci ok rfl ?_
  refine ty_add ok rfl ?_
  refine ty_scr ok rfl hk0 hg0 hL (by omega) (by omega) ?_
  refine ty_callVg ok rfl rfl rfl rfl (by exact rfl) rfl hM2 (Nat.zero_le _) (Nat.zero_le _) (fun σ9 z9 => ?_)
  obtain ⟨k3, g3, r3, l3, n3, rfl, -, I3⟩ := z9
  refine ty_same ok rfl ?_
  exact K _ _ _ _ _ _ _ _ _ _ I3 (by omega) (by omega)
theorem lc_about {E : zE} {tb : List ExceptionTableEntry} {R : Room} {Z : zEd} {L : Nat} {k : Nat → Nat × Nat} {h : Nat → Int → Int} {r : Nat → Int → Option Nat} {l : Nat → Nat → Int64} {n : Nat} {i : Int} {bc bs : Nat} {x5 x6 x7 : Option Value} (ok : zOKr M_L_law tb R 11 P_L_law) (I : LI L k h r n) (i0 : 0 ≤ i) (iL : i + 6 ≤ L) (hL : Nat.ble L 100000 = true) (b1 : 34 ≤ bc) (b2 : 102 ≤ bs)
    (K : ∀ y5 y6 y7 k3 g3 r3 l3 n3 bc2 bs2, LI L k3 g3 r3 n3 → bc ≤ bc2 + 34 → bs ≤ bs2 + 102 → zGy E M_L_law tb R Z 1933 ([some (.ref 0), some (.ref 3), some (.ref 59), some (.ref 86), some (.int (iI i)), y5, y6, y7], [], zJ (k3, g3, r3, l3, n3), bc2, bs2)) : zGy E M_L_law tb R Z 552 ([some (.ref 0), some (.ref 3), some (.ref 59), some (.ref 86), some (.int (iI i)), x5, x6, x7], [], zJ (k, h, r, l, n), bc, bs) := by
  refine ty_ldA1 ok rfl ?_
  refine ty_ldA0 ok rfl ?_
  refine ty_ldI4 ok rfl ?_
  refine ty_ci ok rfl ?_
  refine ty_add ok rfl ?_
  refine ty_scr ok rfl I.2.1.1 rfl hL (by omega) (by omega) ?_
  refine ty_ldA0 ok rfl ?_
  refine ty_ldI4 ok rfl ?_
  refine ty_ci ok rfl ?_
  refine ty_add ok rfl ?_
  refine ty_scr ok rfl I.2.1.1 rfl hL (by omega) (by omega) ?_
  obtain ⟨x, mc, ms, ⟨m1, m2⟩, hM⟩ := la_about (E := E) (l := l) I (I.2.1.2 _) (I.2.1.2 _)
  refine ty_callVg ok rfl rfl rfl rfl (by exact rfl) rfl hM (by omega) (by omega) (fun σ9 z9 => ?_)
  obtain ⟨k2, g, r2, l2, n2, rfl, ⟨hk0, hg0⟩, hM2⟩ := z9
  refine ty_ldA2 ok rfl ?_
  refine ty_ldA0 ok rfl ?_
  refine ty_ldI4 ok rfl ?_
  refine ty_ci ok rfl ?_
  refine ty_add ok rfl ?_
  refine ty_scr ok rfl hk0 hg0 hL (by omega) (by omega) ?_
  refine ty_ldA0 ok rfl ?_
  refine ty_ldI4 ok rfl ?_
  refine ty_ci ok rfl ?_
  refine ty_add ok rfl ?_
  refine ty_scr ok rfl hk0 hg0 hL (by omega) (by omega) ?_
  refine ty_callVg ok rfl rfl rfl rfl (by exact rfl) rfl hM2 (Nat.zero_le _) (Nat.zero_le _) (fun σ9 z9 => ?_)
  obtain ⟨k3, g3, r3, l3, n3, rfl, -, I3⟩ := z9
  refine ty_same ok rfl ?_
  exact K _ _ _ _ _ _ _ _ _ _ I3 (by omega) (by omega)
theorem lc_cancels {E : zE} {tb : List ExceptionTableEntry} {R : Room} {Z : zEd} {L : Nat} {k : Nat → Nat × Nat} {h : Nat → Int → Int} {r : Nat → Int → Option Nat} {l : Nat → Nat → Int64} {n : Nat} {i : Int} {bc bs : Nat} {x5 x6 x7 : Option Value} (ok : zOKr M_L_law tb R 11 P_L_law) (I : LI L k h r n) (i0 : 0 ≤ i) (iL : i + 6 ≤ L) (hL : Nat.ble L 100000 = true) (b1 : 34 ≤ bc) (b2 : 102 ≤ bs)
    (K : ∀ y5 y6 y7 k3 g3 r3 l3 n3 bc2 bs2, LI L k3 g3 r3 n3 → bc ≤ bc2 + 34 → bs ≤ bs2 + 102 → zGy E M_L_law tb R Z 1933 ([some (.ref 0), some (.ref 3), some (.ref 59), some (.ref 86), some (.int (iI i)), y5, y6, y7], [], zJ (k3, g3, r3, l3, n3), bc2, bs2)) : zGy E M_L_law tb R Z 589 ([some (.ref 0), some (.ref 3), some (.ref 59), some (.ref 86), some (.int (iI i)), x5, x6, x7], [], zJ (k, h, r, l, n), bc, bs) := by
  refine ty_ldA1 ok rfl ?_
  refine ty_ldA0 ok rfl ?_
  refine ty_ldI4 ok rfl ?_
  refine ty_ci ok rfl ?_
  refine ty_add ok rfl ?_
  refine ty_scr ok rfl I.2.1.1 rfl hL (by omega) (by omega) ?_
  obtain ⟨x, mc, ms, ⟨m1, m2⟩, hM⟩ := la_cancels (E := E) (l := l) I (I.2.1.2 _)
  refine ty_callVg ok rfl rfl rfl rfl (by exact rfl) rfl hM (by omega) (by omega) (fun σ9 z9 => ?_)
  obtain ⟨k2, g, r2, l2, n2, rfl, ⟨hk0, hg0⟩, hM2⟩ := z9
  refine ty_ldA2 ok rfl ?_
  refine ty_ldA0 ok rfl ?_
  refine ty_ldI4 ok rfl ?_
  refine ty_ci ok rfl ?_
  refine ty_add ok rfl ?_
  refine ty_scr ok rfl hk0 hg0 hL (by omega) (by omega) ?_
  refine ty_callVg ok rfl rfl rfl rfl (by exact rfl) rfl hM2 (Nat.zero_le _) (Nat.zero_le _) (fun σ9 z9 => ?_)
  obtain ⟨k3, g3, r3, l3, n3, rfl, -, I3⟩ := z9
  refine ty_same ok rfl ?_
  exact K _ _ _ _ _ _ _ _ _ _ I3 (by omega) (by omega)
theorem lc_run {E : zE} {tb : List ExceptionTableEntry} {R : Room} {Z : zEd} {L : Nat} {k : Nat → Nat × Nat} {h : Nat → Int → Int} {r : Nat → Int → Option Nat} {l : Nat → Nat → Int64} {n : Nat} {i : Int} {bc bs : Nat} {x5 x6 x7 : Option Value} (ok : zOKr M_L_law tb R 11 P_L_law) (I : LI L k h r n) (i0 : 0 ≤ i) (iL : i + 6 ≤ L) (hL : Nat.ble L 100000 = true) (b1 : 34 ≤ bc) (b2 : 102 ≤ bs)
    (K : ∀ y5 y6 y7 k3 g3 r3 l3 n3 bc2 bs2, LI L k3 g3 r3 n3 → bc ≤ bc2 + 34 → bs ≤ bs2 + 102 → zGy E M_L_law tb R Z 1933 ([some (.ref 0), some (.ref 3), some (.ref 59), some (.ref 86), some (.int (iI i)), y5, y6, y7], [], zJ (k3, g3, r3, l3, n3), bc2, bs2)) : zGy E M_L_law tb R Z 614 ([some (.ref 0), some (.ref 3), some (.ref 59), some (.ref 86), some (.int (iI i)), x5, x6, x7], [], zJ (k, h, r, l, n), bc, bs) := by
  refine ty_ldA1 ok rfl ?_
  refine ty_ldA0 ok rfl ?_
  refine ty_ldI4 ok rfl ?_
  refine ty_ci ok rfl ?_
  refine ty_add ok rfl ?_
  refine ty_scr ok rfl I.2.1.1 rfl hL (by omega) (by omega) ?_
  refine ty_ldA0 ok rfl ?_
  refine ty_ldI4 ok rfl ?_
  refine ty_ci ok rfl ?_
  refine ty_add ok rfl ?_
  refine ty_scr ok rfl I.2.1.1 rfl hL (by omega) (by omega) ?_
  obtain ⟨x, mc, ms, ⟨m1, m2⟩, hM⟩ := la_run (E := E) (l := l) I (I.2.1.2 _) (I.2.1.2 _)
  refine ty_callVg ok rfl rfl rfl rfl (by exact rfl) rfl hM (by omega) (by omega) (fun σ9 z9 => ?_)
  obtain ⟨k2, g, r2, l2, n2, rfl, ⟨hk0, hg0⟩, hM2⟩ := z9
  refine ty_ldA2 ok rfl ?_
  refine ty_ldA0 ok rfl ?_
  refine ty_ldI4 ok rfl ?_
  refine ty_ci ok rfl ?_
  refine ty_add ok rfl ?_
  refine ty_scr ok rfl hk0 hg0 hL (by omega) (by omega) ?_
  refine ty_ldA0 ok rfl ?_
  refine ty_ldI4 ok rfl ?_
  refine ty_ci ok rfl ?_
  refine ty_add ok rfl ?_
  refine ty_scr ok rfl hk0 hg0 hL (by omega) (by omega) ?_
  refine ty_callVg ok rfl rfl rfl rfl (by exact rfl) rfl hM2 (Nat.zero_le _) (Nat.zero_le _) (fun σ9 z9 => ?_)
  obtain ⟨k3, g3, r3, l3, n3, rfl, -, I3⟩ := z9
  refine ty_same ok rfl ?_
  exact K _ _ _ _ _ _ _ _ _ _ I3 (by omega) (by omega)
theorem lc_set {E : zE} {tb : List ExceptionTableEntry} {R : Room} {Z : zEd} {L : Nat} {k : Nat → Nat × Nat} {h : Nat → Int → Int} {r : Nat → Int → Option Nat} {l : Nat → Nat → Int64} {n : Nat} {i : Int} {bc bs : Nat} {x5 x6 x7 : Option Value} (ok : zOKr M_L_law tb R 11 P_L_law) (I : LI L k h r n) (i0 : 0 ≤ i) (iL : i + 6 ≤ L) (hL : Nat.ble L 100000 = true) (b1 : 34 ≤ bc) (b2 : 102 ≤ bs)
    (K : ∀ y5 y6 y7 k3 g3 r3 l3 n3 bc2 bs2, LI L k3 g3 r3 n3 → bc ≤ bc2 + 34 → bs ≤ bs2 + 102 → zGy E M_L_law tb R Z 1933 ([some (.ref 0), some (.ref 3), some (.ref 59), some (.ref 86), some (.int (iI i)), y5, y6, y7], [], zJ (k3, g3, r3, l3, n3), bc2, bs2)) : zGy E M_L_law tb R Z 651 ([some (.ref 0), some (.ref 3), some (.ref 59), some (.ref 86), some (.int (iI i)), x5, x6, x7], [], zJ (k, h, r, l, n), bc, bs) := by
  refine ty_ldA1 ok rfl ?_
  refine ty_ldA0 ok rfl ?_
  refine ty_ldI4 ok rfl ?_
  refine ty_ci ok rfl ?_
  refine ty_add ok rfl ?_
  refine ty_scr ok rfl I.2.1.1 rfl hL (by omega) (by omega) ?_
  refine ty_ldA0 ok rfl ?_
  refine ty_ldI4 ok rfl ?_
  refine ty_ci ok rfl ?_
  refine ty_add ok rfl ?_
  refine ty_scr ok rfl I.2.1.1 rfl hL (by omega) (by omega) ?_
  obtain ⟨x, mc, ms, ⟨m1, m2⟩, hM⟩ := la_set (E := E) (l := l) I (I.2.1.2 _) (I.2.1.2 _)
  refine ty_callVg ok rfl rfl rfl rfl (by exact rfl) rfl hM (by omega) (by omega) (fun σ9 z9 => ?_)
  obtain ⟨k2, g, r2, l2, n2, rfl, ⟨hk0, hg0⟩, hM2⟩ := z9
  refine ty_ldA2 ok rfl ?_
  refine ty_ldA0 ok rfl ?_
  refine ty_ldI4 ok rfl ?_
  refine ty_ci ok rfl ?_
  refine ty_add ok rfl ?_
  refine ty_scr ok rfl hk0 hg0 hL (by omega) (by omega) ?_
  refine ty_ldA0 ok rfl ?_
  refine ty_ldI4 ok rfl ?_
  refine ty_ci ok rfl ?_
  refine ty_add ok rfl ?_
  refine ty_scr ok rfl hk0 hg0 hL (by omega) (by omega) ?_
  refine ty_callVg ok rfl rfl rfl rfl (by exact rfl) rfl hM2 (Nat.zero_le _) (Nat.zero_le _) (fun σ9 z9 => ?_)
  obtain ⟨k3, g3, r3, l3, n3, rfl, -, I3⟩ := z9
  refine ty_same ok rfl ?_
  exact K _ _ _ _ _ _ _ _ _ _ I3 (by omega) (by omega)
theorem lc_fate {E : zE} {tb : List ExceptionTableEntry} {R : Room} {Z : zEd} {L : Nat} {k : Nat → Nat × Nat} {h : Nat → Int → Int} {r : Nat → Int → Option Nat} {l : Nat → Nat → Int64} {n : Nat} {i : Int} {bc bs : Nat} {x5 x6 x7 : Option Value} (ok : zOKr M_L_law tb R 11 P_L_law) (I : LI L k h r n) (i0 : 0 ≤ i) (iL : i + 6 ≤ L) (hL : Nat.ble L 100000 = true) (b1 : 34 ≤ bc) (b2 : 102 ≤ bs)
    (K : ∀ y5 y6 y7 k3 g3 r3 l3 n3 bc2 bs2, LI L k3 g3 r3 n3 → bc ≤ bc2 + 34 → bs ≤ bs2 + 102 → zGy E M_L_law tb R Z 1933 ([some (.ref 0), some (.ref 3), some (.ref 59), some (.ref 86), some (.int (iI i)), y5, y6, y7], [], zJ (k3, g3, r3, l3, n3), bc2, bs2)) : zGy E M_L_law tb R Z 688 ([some (.ref 0), some (.ref 3), some (.ref 59), some (.ref 86), some (.int (iI i)), x5, x6, x7], [], zJ (k, h, r, l, n), bc, bs) := by
  refine ty_ldA1 ok rfl ?_
  refine ty_ldA0 ok rfl ?_
  refine ty_ldI4 ok rfl ?_
  refine ty_ci ok rfl ?_
  refine ty_add ok rfl ?_
  refine ty_scr ok rfl I.2.1.1 rfl hL (by omega) (by omega) ?_
  refine ty_ldA0 ok rfl ?_
  refine ty_ldI4 ok rfl ?_
  refine ty_ci ok rfl ?_
  refine ty_add ok rfl ?_
  refine ty_scr ok rfl I.2.1.1 rfl hL (by omega) (by omega) ?_
  obtain ⟨x, mc, ms, ⟨m1, m2⟩, hM⟩ := la_fate (E := E) (l := l) I (I.2.1.2 _) (I.2.1.2 _)
  refine ty_callVg ok rfl rfl rfl rfl (by exact rfl) rfl hM (by omega) (by omega) (fun σ9 z9 => ?_)
  obtain ⟨k2, g, r2, l2, n2, rfl, ⟨hk0, hg0⟩, hM2⟩ := z9
  refine ty_ldA2 ok rfl ?_
  refine ty_ldA0 ok rfl ?_
  refine ty_ldI4 ok rfl ?_
  refine ty_ci ok rfl ?_
  refine ty_add ok rfl ?_
  refine ty_scr ok rfl hk0 hg0 hL (by omega) (by omega) ?_
  refine ty_ldA0 ok rfl ?_
  refine ty_ldI4 ok rfl ?_
  refine ty_ci ok rfl ?_
  refine ty_add ok rfl ?_
  refine ty_scr ok rfl hk0 hg0 hL (by omega) (by omega) ?_
  refine ty_callVg ok rfl rfl rfl rfl (by exact rfl) rfl hM2 (Nat.zero_le _) (Nat.zero_le _) (fun σ9 z9 => ?_)
  obtain ⟨k3, g3, r3, l3, n3, rfl, -, I3⟩ := z9
  refine ty_same ok rfl ?_
  exact K _ _ _ _ _ _ _ _ _ _ I3 (by omega) (by omega)
theorem lc_when {E : zE} {tb : List ExceptionTableEntry} {R : Room} {Z : zEd} {L : Nat} {k : Nat → Nat × Nat} {h : Nat → Int → Int} {r : Nat → Int → Option Nat} {l : Nat → Nat → Int64} {n : Nat} {i : Int} {bc bs : Nat} {x5 x6 x7 : Option Value} (ok : zOKr M_L_law tb R 11 P_L_law) (I : LI L k h r n) (i0 : 0 ≤ i) (iL : i + 6 ≤ L) (hL : Nat.ble L 100000 = true) (b1 : 34 ≤ bc) (b2 : 102 ≤ bs)
    (K : ∀ y5 y6 y7 k3 g3 r3 l3 n3 bc2 bs2, LI L k3 g3 r3 n3 → bc ≤ bc2 + 34 → bs ≤ bs2 + 102 → zGy E M_L_law tb R Z 1933 ([some (.ref 0), some (.ref 3), some (.ref 59), some (.ref 86), some (.int (iI i)), y5, y6, y7], [], zJ (k3, g3, r3, l3, n3), bc2, bs2)) : zGy E M_L_law tb R Z 725 ([some (.ref 0), some (.ref 3), some (.ref 59), some (.ref 86), some (.int (iI i)), x5, x6, x7], [], zJ (k, h, r, l, n), bc, bs) := by
  refine ty_ldA1 ok rfl ?_
  refine ty_ldA0 ok rfl ?_
  refine ty_ldI4 ok rfl ?_
  refine ty_ci ok rfl ?_
  refine ty_add ok rfl ?_
  refine ty_scr ok rfl I.2.1.1 rfl hL (by omega) (by omega) ?_
  refine ty_ldA0 ok rfl ?_
  refine ty_ldI4 ok rfl ?_
  refine ty_ci ok rfl ?_
  refine ty_add ok rfl ?_
  refine ty_scr ok rfl I.2.1.1 rfl hL (by omega) (by omega) ?_
  refine ty_ldA0 ok rfl ?_
  refine ty_ldI4 ok rfl ?_
  refine ty_ci ok rfl ?_
  refine ty_add ok rfl ?_
  refine ty_scr ok rfl I.2.1.1 rfl hL (by omega) (by omega) ?_
  obtain ⟨x, mc, ms, ⟨m1, m2⟩, hM⟩ := la_when (E := E) (l := l) I (I.2.1.2 _) (I.2.1.2 _) (I.2.1.2 _)
  refine ty_callVg ok rfl rfl rfl rfl (by exact rfl) rfl hM (by omega) (by omega) (fun σ9 z9 => ?_)
  obtain ⟨k2, g, r2, l2, n2, rfl, ⟨hk0, hg0⟩, hM2⟩ := z9
  refine ty_ldA2 ok rfl ?_
  refine ty_ldA0 ok rfl ?_
  refine ty_ldI4 ok rfl ?_
  refine ty_ci ok rfl ?_
  refine ty_add ok rfl ?_
  refine ty_scr ok rfl hk0 hg0 hL (by omega) (by omega) ?_
  refine ty_ldA0 ok rfl ?_
  refine ty_ldI4 ok rfl ?_
  refine ty_ci ok rfl ?_
  refine ty_add ok rfl ?_
  refine ty_scr ok rfl hk0 hg0 hL (by omega) (by omega) ?_
  refine ty_ldA0 ok rfl ?_
  refine ty_ldI4 ok rfl ?_
  refine ty_ci ok rfl ?_
  refine ty_add ok rfl ?_
  refine ty_scr ok rfl hk0 hg0 hL (by omega) (by omega) ?_
  refine ty_callVg ok rfl rfl rfl rfl (by exact rfl) rfl hM2 (Nat.zero_le _) (Nat.zero_le _) (fun σ9 z9 => ?_)
  obtain ⟨k3, g3, r3, l3, n3, rfl, -, I3⟩ := z9
  refine ty_same ok rfl ?_
  exact K _ _ _ _ _ _ _ _ _ _ I3 (by omega) (by omega)
theorem lc_sums {E : zE} {tb : List ExceptionTableEntry} {R : Room} {Z : zEd} {L : Nat} {k : Nat → Nat × Nat} {h : Nat → Int → Int} {r : Nat → Int → Option Nat} {l : Nat → Nat → Int64} {n : Nat} {i : Int} {bc bs : Nat} {x5 x6 x7 : Option Value} (ok : zOKr M_L_law tb R 11 P_L_law) (I : LI L k h r n) (i0 : 0 ≤ i) (iL : i + 6 ≤ L) (hL : Nat.ble L 100000 = true) (b1 : 34 ≤ bc) (b2 : 102 ≤ bs)
    (K : ∀ y5 y6 y7 k3 g3 r3 l3 n3 bc2 bs2, LI L k3 g3 r3 n3 → bc ≤ bc2 + 34 → bs ≤ bs2 + 102 → zGy E M_L_law tb R Z 1933 ([some (.ref 0), some (.ref 3), some (.ref 59), some (.ref 86), some (.int (iI i)), y5, y6, y7], [], zJ (k3, g3, r3, l3, n3), bc2, bs2)) : zGy E M_L_law tb R Z 774 ([some (.ref 0), some (.ref 3), some (.ref 59), some (.ref 86), some (.int (iI i)), x5, x6, x7], [], zJ (k, h, r, l, n), bc, bs) := by
  refine ty_ldA1 ok rfl ?_
  refine ty_ldA0 ok rfl ?_
  refine ty_ldI4 ok rfl ?_
  refine ty_ci ok rfl ?_
  refine ty_add ok rfl ?_
  refine ty_scr ok rfl I.2.1.1 rfl hL (by omega) (by omega) ?_
  obtain ⟨x, mc, ms, ⟨m1, m2⟩, hM⟩ := la_sums (E := E) (l := l) I (I.2.1.2 _)
  refine ty_callVg ok rfl rfl rfl rfl (by exact rfl) rfl hM (by omega) (by omega) (fun σ9 z9 => ?_)
  obtain ⟨k2, g, r2, l2, n2, rfl, ⟨hk0, hg0⟩, hM2⟩ := z9
  refine ty_ldA2 ok rfl ?_
  refine ty_ldA0 ok rfl ?_
  refine ty_ldI4 ok rfl ?_
  refine ty_ci ok rfl ?_
  refine ty_add ok rfl ?_
  refine ty_scr ok rfl hk0 hg0 hL (by omega) (by omega) ?_
  refine ty_callVg ok rfl rfl rfl rfl (by exact rfl) rfl hM2 (Nat.zero_le _) (Nat.zero_le _) (fun σ9 z9 => ?_)
  obtain ⟨k3, g3, r3, l3, n3, rfl, -, I3⟩ := z9
  refine ty_same ok rfl ?_
  exact K _ _ _ _ _ _ _ _ _ _ I3 (by omega) (by omega)
theorem lc_aboard {E : zE} {tb : List ExceptionTableEntry} {R : Room} {Z : zEd} {L : Nat} {k : Nat → Nat × Nat} {h : Nat → Int → Int} {r : Nat → Int → Option Nat} {l : Nat → Nat → Int64} {n : Nat} {i : Int} {bc bs : Nat} {x5 x6 x7 : Option Value} (ok : zOKr M_L_law tb R 11 P_L_law) (I : LI L k h r n) (i0 : 0 ≤ i) (iL : i + 6 ≤ L) (hL : Nat.ble L 100000 = true) (b1 : 34 ≤ bc) (b2 : 102 ≤ bs)
    (K : ∀ y5 y6 y7 k3 g3 r3 l3 n3 bc2 bs2, LI L k3 g3 r3 n3 → bc ≤ bc2 + 34 → bs ≤ bs2 + 102 → zGy E M_L_law tb R Z 1933 ([some (.ref 0), some (.ref 3), some (.ref 59), some (.ref 86), some (.int (iI i)), y5, y6, y7], [], zJ (k3, g3, r3, l3, n3), bc2, bs2)) : zGy E M_L_law tb R Z 799 ([some (.ref 0), some (.ref 3), some (.ref 59), some (.ref 86), some (.int (iI i)), x5, x6, x7], [], zJ (k, h, r, l, n), bc, bs) := by
  refine ty_ldA1 ok rfl ?_
  refine ty_ldA0 ok rfl ?_
  refine ty_ldI4 ok rfl ?_
  refine ty_ci ok rfl ?_
  refine ty_add ok rfl ?_
  refine ty_scr ok rfl I.2.1.1 rfl hL (by omega) (by omega) ?_
  refine ty_ldA0 ok rfl ?_
  refine ty_ldI4 ok rfl ?_
  refine ty_ci ok rfl ?_
  refine ty_add ok rfl ?_
  refine ty_scr ok rfl I.2.1.1 rfl hL (by omega) (by omega) ?_
  refine ty_ldA0 ok rfl ?_
  refine ty_ldI4 ok rfl ?_
  refine ty_ci ok rfl ?_
  refine ty_add ok rfl ?_
  refine ty_scr ok rfl I.2.1.1 rfl hL (by omega) (by omega) ?_
  obtain ⟨x, mc, ms, ⟨m1, m2⟩, hM⟩ := la_aboard (E := E) (l := l) I (I.2.1.2 _) (I.2.1.2 _) (I.2.1.2 _)
  refine ty_callVg ok rfl rfl rfl rfl (by exact rfl) rfl hM (by omega) (by omega) (fun σ9 z9 => ?_)
  obtain ⟨k2, g, r2, l2, n2, rfl, ⟨hk0, hg0⟩, hM2⟩ := z9
  refine ty_ldA2 ok rfl ?_
  refine ty_ldA0 ok rfl ?_
  refine ty_ldI4 ok rfl ?_
  refine ty_ci ok rfl ?_
  refine ty_add ok rfl ?_
  refine ty_scr ok rfl hk0 hg0 hL (by omega) (by omega) ?_
  refine ty_ldA0 ok rfl ?_
  refine ty_ldI4 ok rfl ?_
  refine ty_ci ok rfl ?_
  refine ty_add ok rfl ?_
  refine ty_scr ok rfl hk0 hg0 hL (by omega) (by omega) ?_
  refine ty_ldA0 ok rfl ?_
  refine ty_ldI4 ok rfl ?_
  refine ty_ci ok rfl ?_
  refine ty_add ok rfl ?_
  refine ty_scr ok rfl hk0 hg0 hL (by omega) (by omega) ?_
  refine ty_callVg ok rfl rfl rfl rfl (by exact rfl) rfl hM2 (Nat.zero_le _) (Nat.zero_le _) (fun σ9 z9 => ?_)
  obtain ⟨k3, g3, r3, l3, n3, rfl, -, I3⟩ := z9
  refine ty_same ok rfl ?_
  exact K _ _ _ _ _ _ _ _ _ _ I3 (by omega) (by omega)
theorem lc_fullest {E : zE} {tb : List ExceptionTableEntry} {R : Room} {Z : zEd} {L : Nat} {k : Nat → Nat × Nat} {h : Nat → Int → Int} {r : Nat → Int → Option Nat} {l : Nat → Nat → Int64} {n : Nat} {i : Int} {bc bs : Nat} {x5 x6 x7 : Option Value} (ok : zOKr M_L_law tb R 11 P_L_law) (I : LI L k h r n) (i0 : 0 ≤ i) (iL : i + 6 ≤ L) (hL : Nat.ble L 100000 = true) (b1 : 34 ≤ bc) (b2 : 102 ≤ bs)
    (K : ∀ y5 y6 y7 k3 g3 r3 l3 n3 bc2 bs2, LI L k3 g3 r3 n3 → bc ≤ bc2 + 34 → bs ≤ bs2 + 102 → zGy E M_L_law tb R Z 1933 ([some (.ref 0), some (.ref 3), some (.ref 59), some (.ref 86), some (.int (iI i)), y5, y6, y7], [], zJ (k3, g3, r3, l3, n3), bc2, bs2)) : zGy E M_L_law tb R Z 848 ([some (.ref 0), some (.ref 3), some (.ref 59), some (.ref 86), some (.int (iI i)), x5, x6, x7], [], zJ (k, h, r, l, n), bc, bs) := by
  refine ty_ldA1 ok rfl ?_
  refine ty_ldA0 ok rfl ?_
  refine ty_ldI4 ok rfl ?_
  refine ty_ci ok rfl ?_
  refine ty_add ok rfl ?_
  refine ty_scr ok rfl I.2.1.1 rfl hL (by omega) (by omega) ?_
  refine ty_ldA0 ok rfl ?_
  refine ty_ldI4 ok rfl ?_
  refine ty_ci ok rfl ?_
  refine ty_add ok rfl ?_
  refine ty_scr ok rfl I.2.1.1 rfl hL (by omega) (by omega) ?_
  obtain ⟨x, mc, ms, ⟨m1, m2⟩, hM⟩ := la_fullest (E := E) (l := l) I (I.2.1.2 _) (I.2.1.2 _)
  refine ty_callVg ok rfl rfl rfl rfl (by exact rfl) rfl hM (by omega) (by omega) (fun σ9 z9 => ?_)
  obtain ⟨k2, g, r2, l2, n2, rfl, ⟨hk0, hg0⟩, hM2⟩ := z9
  refine ty_ldA2 ok rfl ?_
  refine ty_ldA0 ok rfl ?_
  refine ty_ldI4 ok rfl ?_
  refine ty_ci ok rfl ?_
  refine ty_add ok rfl ?_
  refine ty_scr ok rfl hk0 hg0 hL (by omega) (by omega) ?_
  refine ty_ldA0 ok rfl ?_
  refine ty_ldI4 ok rfl ?_
  refine ty_ci ok rfl ?_
  refine ty_add ok rfl ?_
  refine ty_scr ok rfl hk0 hg0 hL (by omega) (by omega) ?_
  refine ty_callVg ok rfl rfl rfl rfl (by exact rfl) rfl hM2 (Nat.zero_le _) (Nat.zero_le _) (fun σ9 z9 => ?_)
  obtain ⟨k3, g3, r3, l3, n3, rfl, -, I3⟩ := z9
  refine ty_same ok rfl ?_
  exact K _ _ _ _ _ _ _ _ _ _ I3 (by omega) (by omega)
theorem lc_later {E : zE} {tb : List ExceptionTableEntry} {R : Room} {Z : zEd} {L : Nat} {k : Nat → Nat × Nat} {h : Nat → Int → Int} {r : Nat → Int → Option Nat} {l : Nat → Nat → Int64} {n : Nat} {i : Int} {bc bs : Nat} {x5 x6 x7 : Option Value} (ok : zOKr M_L_law tb R 11 P_L_law) (I : LI L k h r n) (i0 : 0 ≤ i) (iL : i + 6 ≤ L) (hL : Nat.ble L 100000 = true) (b1 : 34 ≤ bc) (b2 : 102 ≤ bs)
    (K : ∀ y5 y6 y7 k3 g3 r3 l3 n3 bc2 bs2, LI L k3 g3 r3 n3 → bc ≤ bc2 + 34 → bs ≤ bs2 + 102 → zGy E M_L_law tb R Z 1933 ([some (.ref 0), some (.ref 3), some (.ref 59), some (.ref 86), some (.int (iI i)), y5, y6, y7], [], zJ (k3, g3, r3, l3, n3), bc2, bs2)) : zGy E M_L_law tb R Z 885 ([some (.ref 0), some (.ref 3), some (.ref 59), some (.ref 86), some (.int (iI i)), x5, x6, x7], [], zJ (k, h, r, l, n), bc, bs) := by
  refine ty_ldA1 ok rfl ?_
  refine ty_ldA0 ok rfl ?_
  refine ty_ldI4 ok rfl ?_
  refine ty_ci ok rfl ?_
  refine ty_add ok rfl ?_
  refine ty_scr ok rfl I.2.1.1 rfl hL (by omega) (by omega) ?_
  refine ty_ldA0 ok rfl ?_
  refine ty_ldI4 ok rfl ?_
  refine ty_ci ok rfl ?_
  refine ty_add ok rfl ?_
  refine ty_scr ok rfl I.2.1.1 rfl hL (by omega) (by omega) ?_
  obtain ⟨x, mc, ms, ⟨m1, m2⟩, hM⟩ := la_later (E := E) (l := l) I (I.2.1.2 _) (I.2.1.2 _)
  refine ty_callVg ok rfl rfl rfl rfl (by exact rfl) rfl hM (by omega) (by omega) (fun σ9 z9 => ?_)
  obtain ⟨k2, g, r2, l2, n2, rfl, ⟨hk0, hg0⟩, hM2⟩ := z9
  refine ty_ldA2 ok rfl ?_
  refine ty_ldA0 ok rfl ?_
  refine ty_ldI4 ok rfl ?_
  refine ty_ci ok rfl ?_
  refine ty_add ok rfl ?_
  refine ty_scr ok rfl hk0 hg0 hL (by omega) (by omega) ?_
  refine ty_ldA0 ok rfl ?_
  refine ty_ldI4 ok rfl ?_
  refine ty_ci ok rfl ?_
  refine ty_add ok rfl ?_
  refine ty_scr ok rfl hk0 hg0 hL (by omega) (by omega) ?_
  refine ty_callVg ok rfl rfl rfl rfl (by exact rfl) rfl hM2 (Nat.zero_le _) (Nat.zero_le _) (fun σ9 z9 => ?_)
  obtain ⟨k3, g3, r3, l3, n3, rfl, -, I3⟩ := z9
  refine ty_same ok rfl ?_
  exact K _ _ _ _ _ _ _ _ _ _ I3 (by omega) (by omega)
theorem lc_slack {E : zE} {tb : List ExceptionTableEntry} {R : Room} {Z : zEd} {L : Nat} {k : Nat → Nat × Nat} {h : Nat → Int → Int} {r : Nat → Int → Option Nat} {l : Nat → Nat → Int64} {n : Nat} {i : Int} {bc bs : Nat} {x5 x6 x7 : Option Value} (ok : zOKr M_L_law tb R 11 P_L_law) (I : LI L k h r n) (i0 : 0 ≤ i) (iL : i + 6 ≤ L) (hL : Nat.ble L 100000 = true) (b1 : 34 ≤ bc) (b2 : 102 ≤ bs)
    (K : ∀ y5 y6 y7 k3 g3 r3 l3 n3 bc2 bs2, LI L k3 g3 r3 n3 → bc ≤ bc2 + 34 → bs ≤ bs2 + 102 → zGy E M_L_law tb R Z 1933 ([some (.ref 0), some (.ref 3), some (.ref 59), some (.ref 86), some (.int (iI i)), y5, y6, y7], [], zJ (k3, g3, r3, l3, n3), bc2, bs2)) : zGy E M_L_law tb R Z 922 ([some (.ref 0), some (.ref 3), some (.ref 59), some (.ref 86), some (.int (iI i)), x5, x6, x7], [], zJ (k, h, r, l, n), bc, bs) := by
  refine ty_ldA1 ok rfl ?_
  refine ty_ldA0 ok rfl ?_
  refine ty_ldI4 ok rfl ?_
  refine ty_ci ok rfl ?_
  refine ty_add ok rfl ?_
  refine ty_scr ok rfl I.2.1.1 rfl hL (by omega) (by omega) ?_
  obtain ⟨x, mc, ms, ⟨m1, m2⟩, hM⟩ := la_slack (E := E) (l := l) I (I.2.1.2 _)
  refine ty_callVg ok rfl rfl rfl rfl (by exact rfl) rfl hM (by omega) (by omega) (fun σ9 z9 => ?_)
  obtain ⟨k2, g, r2, l2, n2, rfl, ⟨hk0, hg0⟩, hM2⟩ := z9
  refine ty_ldA2 ok rfl ?_
  refine ty_ldA0 ok rfl ?_
  refine ty_ldI4 ok rfl ?_
  refine ty_ci ok rfl ?_
  refine ty_add ok rfl ?_
  refine ty_scr ok rfl hk0 hg0 hL (by omega) (by omega) ?_
  refine ty_callVg ok rfl rfl rfl rfl (by exact rfl) rfl hM2 (Nat.zero_le _) (Nat.zero_le _) (fun σ9 z9 => ?_)
  obtain ⟨k3, g3, r3, l3, n3, rfl, -, I3⟩ := z9
  refine ty_same ok rfl ?_
  exact K _ _ _ _ _ _ _ _ _ _ I3 (by omega) (by omega)
theorem lc_odds {E : zE} {tb : List ExceptionTableEntry} {R : Room} {Z : zEd} {L : Nat} {k : Nat → Nat × Nat} {h : Nat → Int → Int} {r : Nat → Int → Option Nat} {l : Nat → Nat → Int64} {n : Nat} {i : Int} {bc bs : Nat} {x5 x6 x7 : Option Value} (ok : zOKr M_L_law tb R 11 P_L_law) (I : LI L k h r n) (i0 : 0 ≤ i) (iL : i + 6 ≤ L) (hL : Nat.ble L 100000 = true) (b1 : 34 ≤ bc) (b2 : 102 ≤ bs)
    (K : ∀ y5 y6 y7 k3 g3 r3 l3 n3 bc2 bs2, LI L k3 g3 r3 n3 → bc ≤ bc2 + 34 → bs ≤ bs2 + 102 → zGy E M_L_law tb R Z 1933 ([some (.ref 0), some (.ref 3), some (.ref 59), some (.ref 86), some (.int (iI i)), y5, y6, y7], [], zJ (k3, g3, r3, l3, n3), bc2, bs2)) : zGy E M_L_law tb R Z 947 ([some (.ref 0), some (.ref 3), some (.ref 59), some (.ref 86), some (.int (iI i)), x5, x6, x7], [], zJ (k, h, r, l, n), bc, bs) := by
  refine ty_ldA1 ok rfl ?_
  refine ty_ldA0 ok rfl ?_
  refine ty_ldI4 ok rfl ?_
  refine ty_ci ok rfl ?_
  refine ty_add ok rfl ?_
  refine ty_scr ok rfl I.2.1.1 rfl hL (by omega) (by omega) ?_
  obtain ⟨x, mc, ms, ⟨m1, m2⟩, hM⟩ := la_odds (E := E) (l := l) I (I.2.1.2 _)
  refine ty_callVg ok rfl rfl rfl rfl (by exact rfl) rfl hM (by omega) (by omega) (fun σ9 z9 => ?_)
  obtain ⟨k2, g, r2, l2, n2, rfl, ⟨hk0, hg0⟩, hM2⟩ := z9
  refine ty_ldA2 ok rfl ?_
  refine ty_ldA0 ok rfl ?_
  refine ty_ldI4 ok rfl ?_
  refine ty_ci ok rfl ?_
  refine ty_add ok rfl ?_
  refine ty_scr ok rfl hk0 hg0 hL (by omega) (by omega) ?_
  refine ty_callVg ok rfl rfl rfl rfl (by exact rfl) rfl hM2 (Nat.zero_le _) (Nat.zero_le _) (fun σ9 z9 => ?_)
  obtain ⟨k3, g3, r3, l3, n3, rfl, -, I3⟩ := z9
  refine ty_same ok rfl ?_
  exact K _ _ _ _ _ _ _ _ _ _ I3 (by omega) (by omega)
theorem lc_mean {E : zE} {tb : List ExceptionTableEntry} {R : Room} {Z : zEd} {L : Nat} {k : Nat → Nat × Nat} {h : Nat → Int → Int} {r : Nat → Int → Option Nat} {l : Nat → Nat → Int64} {n : Nat} {i : Int} {bc bs : Nat} {x5 x6 x7 : Option Value} (ok : zOKr M_L_law tb R 11 P_L_law) (I : LI L k h r n) (i0 : 0 ≤ i) (iL : i + 6 ≤ L) (hL : Nat.ble L 100000 = true) (b1 : 34 ≤ bc) (b2 : 102 ≤ bs)
    (K : ∀ y5 y6 y7 k3 g3 r3 l3 n3 bc2 bs2, LI L k3 g3 r3 n3 → bc ≤ bc2 + 34 → bs ≤ bs2 + 102 → zGy E M_L_law tb R Z 1933 ([some (.ref 0), some (.ref 3), some (.ref 59), some (.ref 86), some (.int (iI i)), y5, y6, y7], [], zJ (k3, g3, r3, l3, n3), bc2, bs2)) : zGy E M_L_law tb R Z 972 ([some (.ref 0), some (.ref 3), some (.ref 59), some (.ref 86), some (.int (iI i)), x5, x6, x7], [], zJ (k, h, r, l, n), bc, bs) := by
  refine ty_ldA1 ok rfl ?_
  refine ty_ldA0 ok rfl ?_
  refine ty_ldI4 ok rfl ?_
  refine ty_ci ok rfl ?_
  refine ty_add ok rfl ?_
  refine ty_scr ok rfl I.2.1.1 rfl hL (by omega) (by omega) ?_
  refine ty_ldA0 ok rfl ?_
  refine ty_ldI4 ok rfl ?_
  refine ty_ci ok rfl ?_
  refine ty_add ok rfl ?_
  refine ty_scr ok rfl I.2.1.1 rfl hL (by omega) (by omega) ?_
  obtain ⟨x, mc, ms, ⟨m1, m2⟩, hM⟩ := la_mean (E := E) (l := l) I (I.2.1.2 _) (I.2.1.2 _)
  refine ty_callVg ok rfl rfl rfl rfl (by exact rfl) rfl hM (by omega) (by omega) (fun σ9 z9 => ?_)
  obtain ⟨k2, g, r2, l2, n2, rfl, ⟨hk0, hg0⟩, hM2⟩ := z9
  refine ty_ldA2 ok rfl ?_
  refine ty_ldA0 ok rfl ?_
  refine ty_ldI4 ok rfl ?_
  refine ty_ci ok rfl ?_
  refine ty_add ok rfl ?_
  refine ty_scr ok rfl hk0 hg0 hL (by omega) (by omega) ?_
  refine ty_ldA0 ok rfl ?_
  refine ty_ldI4 ok rfl ?_
  refine ty_ci ok rfl ?_
  refine ty_add ok rfl ?_
  refine ty_scr ok rfl hk0 hg0 hL (by omega) (by omega) ?_
  refine ty_callVg ok rfl rfl rfl rfl (by exact rfl) rfl hM2 (Nat.zero_le _) (Nat.zero_le _) (fun σ9 z9 => ?_)
  obtain ⟨k3, g3, r3, l3, n3, rfl, -, I3⟩ := z9
  refine ty_samel ok rfl rfl ?_
  exact K _ _ _ _ _ _ _ _ _ _ I3 (by omega) (by omega)
theorem lc_two {E : zE} {tb : List ExceptionTableEntry} {R : Room} {Z : zEd} {L : Nat} {k : Nat → Nat × Nat} {h : Nat → Int → Int} {r : Nat → Int → Option Nat} {l : Nat → Nat → Int64} {n : Nat} {i : Int} {bc bs : Nat} {x5 x6 x7 : Option Value} (ok : zOKr M_L_law tb R 11 P_L_law) (I : LI L k h r n) (i0 : 0 ≤ i) (iL : i + 6 ≤ L) (hL : Nat.ble L 100000 = true) (b1 : 34 ≤ bc) (b2 : 102 ≤ bs)
    (K : ∀ y5 y6 y7 k3 g3 r3 l3 n3 bc2 bs2, LI L k3 g3 r3 n3 → bc ≤ bc2 + 34 → bs ≤ bs2 + 102 → zGy E M_L_law tb R Z 1933 ([some (.ref 0), some (.ref 3), some (.ref 59), some (.ref 86), some (.int (iI i)), y5, y6, y7], [], zJ (k3, g3, r3, l3, n3), bc2, bs2)) : zGy E M_L_law tb R Z 1010 ([some (.ref 0), some (.ref 3), some (.ref 59), some (.ref 86), some (.int (iI i)), x5, x6, x7], [], zJ (k, h, r, l, n), bc, bs) := by
  refine ty_ldA1 ok rfl ?_
  refine ty_ldA0 ok rfl ?_
  refine ty_ldI4 ok rfl ?_
  refine ty_ci ok rfl ?_
  refine ty_add ok rfl ?_
  refine ty_scr ok rfl I.2.1.1 rfl hL (by omega) (by omega) ?_
  refine ty_ldA0 ok rfl ?_
  refine ty_ldI4 ok rfl ?_
  refine ty_ci ok rfl ?_
  refine ty_add ok rfl ?_
  refine ty_scr ok rfl I.2.1.1 rfl hL (by omega) (by omega) ?_
  obtain ⟨x, mc, ms, ⟨m1, m2⟩, hM⟩ := la_two (E := E) (l := l) I (I.2.1.2 _) (I.2.1.2 _)
  refine ty_callVg ok rfl rfl rfl rfl (by exact rfl) rfl hM (by omega) (by omega) (fun σ9 z9 => ?_)
  obtain ⟨k2, g, r2, l2, n2, rfl, ⟨hk0, hg0⟩, hM2⟩ := z9
  refine ty_ldA2 ok rfl ?_
  refine ty_ldA0 ok rfl ?_
  refine ty_ldI4 ok rfl ?_
  refine ty_ci ok rfl ?_
  refine ty_add ok rfl ?_
  refine ty_scr ok rfl hk0 hg0 hL (by omega) (by omega) ?_
  refine ty_ldA0 ok rfl ?_
  refine ty_ldI4 ok rfl ?_
  refine ty_ci ok rfl ?_
  refine ty_add ok rfl ?_
  refine ty_scr ok rfl hk0 hg0 hL (by omega) (by omega) ?_
  refine ty_callVg ok rfl rfl rfl rfl (by exact rfl) rfl hM2 (Nat.zero_le _) (Nat.zero_le _) (fun σ9 z9 => ?_)
  obtain ⟨k3, g3, r3, l3, n3, rfl, -, I3⟩ := z9
  refine ty_same ok rfl ?_
  exact K _ _ _ _ _ _ _ _ _ _ I3 (by omega) (by omega)
theorem lc_whose {E : zE} {tb : List ExceptionTableEntry} {R : Room} {Z : zEd} {L : Nat} {k : Nat → Nat × Nat} {h : Nat → Int → Int} {r : Nat → Int → Option Nat} {l : Nat → Nat → Int64} {n : Nat} {i : Int} {bc bs : Nat} {x5 x6 x7 : Option Value} (ok : zOKr M_L_law tb R 11 P_L_law) (I : LI L k h r n) (i0 : 0 ≤ i) (iL : i + 6 ≤ L) (hL : Nat.ble L 100000 = true) (b1 : 34 ≤ bc) (b2 : 102 ≤ bs)
    (K : ∀ y5 y6 y7 k3 g3 r3 l3 n3 bc2 bs2, LI L k3 g3 r3 n3 → bc ≤ bc2 + 34 → bs ≤ bs2 + 102 → zGy E M_L_law tb R Z 1933 ([some (.ref 0), some (.ref 3), some (.ref 59), some (.ref 86), some (.int (iI i)), y5, y6, y7], [], zJ (k3, g3, r3, l3, n3), bc2, bs2)) : zGy E M_L_law tb R Z 1047 ([some (.ref 0), some (.ref 3), some (.ref 59), some (.ref 86), some (.int (iI i)), x5, x6, x7], [], zJ (k, h, r, l, n), bc, bs) := by
  refine ty_ldA1 ok rfl ?_
  refine ty_ldA0 ok rfl ?_
  refine ty_ldI4 ok rfl ?_
  refine ty_ci ok rfl ?_
  refine ty_add ok rfl ?_
  refine ty_scr ok rfl I.2.1.1 rfl hL (by omega) (by omega) ?_
  obtain ⟨x, mc, ms, ⟨m1, m2⟩, hM⟩ := la_whose (E := E) (l := l) I (I.2.1.2 _)
  refine ty_callVg ok rfl rfl rfl rfl (by exact rfl) rfl hM (by omega) (by omega) (fun σ9 z9 => ?_)
  obtain ⟨k2, g, r2, l2, n2, rfl, ⟨hk0, hg0⟩, hM2⟩ := z9
  refine ty_ldA2 ok rfl ?_
  refine ty_ldA0 ok rfl ?_
  refine ty_ldI4 ok rfl ?_
  refine ty_ci ok rfl ?_
  refine ty_add ok rfl ?_
  refine ty_scr ok rfl hk0 hg0 hL (by omega) (by omega) ?_
  refine ty_callVg ok rfl rfl rfl rfl (by exact rfl) rfl hM2 (Nat.zero_le _) (Nat.zero_le _) (fun σ9 z9 => ?_)
  obtain ⟨k3, g3, r3, l3, n3, rfl, -, I3⟩ := z9
  refine ty_same ok rfl ?_
  exact K _ _ _ _ _ _ _ _ _ _ I3 (by omega) (by omega)
theorem lc_together {E : zE} {tb : List ExceptionTableEntry} {R : Room} {Z : zEd} {L : Nat} {k : Nat → Nat × Nat} {h : Nat → Int → Int} {r : Nat → Int → Option Nat} {l : Nat → Nat → Int64} {n : Nat} {i : Int} {bc bs : Nat} {x5 x6 x7 : Option Value} (ok : zOKr M_L_law tb R 11 P_L_law) (I : LI L k h r n) (i0 : 0 ≤ i) (iL : i + 6 ≤ L) (hL : Nat.ble L 100000 = true) (b1 : 34 ≤ bc) (b2 : 102 ≤ bs)
    (K : ∀ y5 y6 y7 k3 g3 r3 l3 n3 bc2 bs2, LI L k3 g3 r3 n3 → bc ≤ bc2 + 34 → bs ≤ bs2 + 102 → zGy E M_L_law tb R Z 1933 ([some (.ref 0), some (.ref 3), some (.ref 59), some (.ref 86), some (.int (iI i)), y5, y6, y7], [], zJ (k3, g3, r3, l3, n3), bc2, bs2)) : zGy E M_L_law tb R Z 1072 ([some (.ref 0), some (.ref 3), some (.ref 59), some (.ref 86), some (.int (iI i)), x5, x6, x7], [], zJ (k, h, r, l, n), bc, bs) := by
  refine ty_ldA1 ok rfl ?_
  refine ty_ldA0 ok rfl ?_
  refine ty_ldI4 ok rfl ?_
  refine ty_ci ok rfl ?_
  refine ty_add ok rfl ?_
  refine ty_scr ok rfl I.2.1.1 rfl hL (by omega) (by omega) ?_
  refine ty_ldA0 ok rfl ?_
  refine ty_ldI4 ok rfl ?_
  refine ty_ci ok rfl ?_
  refine ty_add ok rfl ?_
  refine ty_scr ok rfl I.2.1.1 rfl hL (by omega) (by omega) ?_
  obtain ⟨x, mc, ms, ⟨m1, m2⟩, hM⟩ := la_together (E := E) (l := l) I (I.2.1.2 _) (I.2.1.2 _)
  refine ty_callVg ok rfl rfl rfl rfl (by exact rfl) rfl hM (by omega) (by omega) (fun σ9 z9 => ?_)
  obtain ⟨k2, g, r2, l2, n2, rfl, ⟨hk0, hg0⟩, hM2⟩ := z9
  refine ty_ldA2 ok rfl ?_
  refine ty_ldA0 ok rfl ?_
  refine ty_ldI4 ok rfl ?_
  refine ty_ci ok rfl ?_
  refine ty_add ok rfl ?_
  refine ty_scr ok rfl hk0 hg0 hL (by omega) (by omega) ?_
  refine ty_ldA0 ok rfl ?_
  refine ty_ldI4 ok rfl ?_
  refine ty_ci ok rfl ?_
  refine ty_add ok rfl ?_
  refine ty_scr ok rfl hk0 hg0 hL (by omega) (by omega) ?_
  refine ty_callVg ok rfl rfl rfl rfl (by exact rfl) rfl hM2 (Nat.zero_le _) (Nat.zero_le _) (fun σ9 z9 => ?_)
  obtain ⟨k3, g3, r3, l3, n3, rfl, -, I3⟩ := z9
  refine ty_same ok rfl ?_
  exact K _ _ _ _ _ _ _ _ _ _ I3 (by omega) (by omega)
theorem lc_cancel {E : zE} {tb : List ExceptionTableEntry} {R : Room} {Z : zEd} {L : Nat} {k : Nat → Nat × Nat} {h : Nat → Int → Int} {r : Nat → Int → Option Nat} {l : Nat → Nat → Int64} {n : Nat} {i : Int} {bc bs : Nat} {x5 x6 x7 : Option Value} (ok : zOKr M_L_law tb R 11 P_L_law) (I : LI L k h r n) (i0 : 0 ≤ i) (iL : i + 6 ≤ L) (hL : Nat.ble L 100000 = true) (b1 : 34 ≤ bc) (b2 : 102 ≤ bs)
    (K : ∀ y5 y6 y7 k3 g3 r3 l3 n3 bc2 bs2, LI L k3 g3 r3 n3 → bc ≤ bc2 + 34 → bs ≤ bs2 + 102 → zGy E M_L_law tb R Z 1933 ([some (.ref 0), some (.ref 3), some (.ref 59), some (.ref 86), some (.int (iI i)), y5, y6, y7], [], zJ (k3, g3, r3, l3, n3), bc2, bs2)) : zGy E M_L_law tb R Z 1109 ([some (.ref 0), some (.ref 3), some (.ref 59), some (.ref 86), some (.int (iI i)), x5, x6, x7], [], zJ (k, h, r, l, n), bc, bs) := by
  refine ty_ldA1 ok rfl ?_
  refine ty_ldA0 ok rfl ?_
  refine ty_ldI4 ok rfl ?_
  refine ty_ci ok rfl ?_
  refine ty_add ok rfl ?_
  refine ty_scr ok rfl I.2.1.1 rfl hL (by omega) (by omega) ?_
  obtain ⟨x, mc, ms, ⟨m1, m2⟩, hM⟩ := la_cancel (E := E) (l := l) I (I.2.1.2 _)
  refine ty_callVg ok rfl rfl rfl rfl (by exact rfl) rfl hM (by omega) (by omega) (fun σ9 z9 => ?_)
  obtain ⟨k2, g, r2, l2, n2, rfl, ⟨hk0, hg0⟩, hM2⟩ := z9
  refine ty_ldA2 ok rfl ?_
  refine ty_ldA0 ok rfl ?_
  refine ty_ldI4 ok rfl ?_
  refine ty_ci ok rfl ?_
  refine ty_add ok rfl ?_
  refine ty_scr ok rfl hk0 hg0 hL (by omega) (by omega) ?_
  refine ty_callVg ok rfl rfl rfl rfl (by exact rfl) rfl hM2 (Nat.zero_le _) (Nat.zero_le _) (fun σ9 z9 => ?_)
  obtain ⟨k3, g3, r3, l3, n3, rfl, -, I3⟩ := z9
  refine ty_same ok rfl ?_
  exact K _ _ _ _ _ _ _ _ _ _ I3 (by omega) (by omega)
theorem lc_strike {E : zE} {tb : List ExceptionTableEntry} {R : Room} {Z : zEd} {L : Nat} {k : Nat → Nat × Nat} {h : Nat → Int → Int} {r : Nat → Int → Option Nat} {l : Nat → Nat → Int64} {n : Nat} {i : Int} {bc bs : Nat} {x5 x6 x7 : Option Value} (ok : zOKr M_L_law tb R 11 P_L_law) (I : LI L k h r n) (i0 : 0 ≤ i) (iL : i + 6 ≤ L) (hL : Nat.ble L 100000 = true) (b1 : 34 ≤ bc) (b2 : 102 ≤ bs)
    (K : ∀ y5 y6 y7 k3 g3 r3 l3 n3 bc2 bs2, LI L k3 g3 r3 n3 → bc ≤ bc2 + 34 → bs ≤ bs2 + 102 → zGy E M_L_law tb R Z 1933 ([some (.ref 0), some (.ref 3), some (.ref 59), some (.ref 86), some (.int (iI i)), y5, y6, y7], [], zJ (k3, g3, r3, l3, n3), bc2, bs2)) : zGy E M_L_law tb R Z 1134 ([some (.ref 0), some (.ref 3), some (.ref 59), some (.ref 86), some (.int (iI i)), x5, x6, x7], [], zJ (k, h, r, l, n), bc, bs) := by
  refine ty_ldA1 ok rfl ?_
  obtain ⟨x, mc, ms, ⟨m1, m2⟩, hM⟩ := la_strike (E := E) (l := l) I 
  refine ty_callVg ok rfl rfl rfl rfl (by exact rfl) rfl hM (by omega) (by omega) (fun σ9 z9 => ?_)
  obtain ⟨k2, g, r2, l2, n2, rfl, ⟨hk0, hg0⟩, hM2⟩ := z9
  refine ty_ldA2 ok rfl ?_
  refine ty_callVg ok rfl rfl rfl rfl (by exact rfl) rfl hM2 (Nat.zero_le _) (Nat.zero_le _) (fun σ9 z9 => ?_)
  obtain ⟨k3, g3, r3, l3, n3, rfl, -, I3⟩ := z9
  refine ty_same ok rfl ?_
  exact K _ _ _ _ _ _ _ _ _ _ I3 (by omega) (by omega)
theorem lc_snow {E : zE} {tb : List ExceptionTableEntry} {R : Room} {Z : zEd} {L : Nat} {k : Nat → Nat × Nat} {h : Nat → Int → Int} {r : Nat → Int → Option Nat} {l : Nat → Nat → Int64} {n : Nat} {i : Int} {bc bs : Nat} {x5 x6 x7 : Option Value} (ok : zOKr M_L_law tb R 11 P_L_law) (I : LI L k h r n) (i0 : 0 ≤ i) (iL : i + 6 ≤ L) (hL : Nat.ble L 100000 = true) (b1 : 34 ≤ bc) (b2 : 102 ≤ bs)
    (K : ∀ y5 y6 y7 k3 g3 r3 l3 n3 bc2 bs2, LI L k3 g3 r3 n3 → bc ≤ bc2 + 34 → bs ≤ bs2 + 102 → zGy E M_L_law tb R Z 1933 ([some (.ref 0), some (.ref 3), some (.ref 59), some (.ref 86), some (.int (iI i)), y5, y6, y7], [], zJ (k3, g3, r3, l3, n3), bc2, bs2)) : zGy E M_L_law tb R Z 1147 ([some (.ref 0), some (.ref 3), some (.ref 59), some (.ref 86), some (.int (iI i)), x5, x6, x7], [], zJ (k, h, r, l, n), bc, bs) := by
  refine ty_ldA1 ok rfl ?_
  refine ty_ldA0 ok rfl ?_
  refine ty_ldI4 ok rfl ?_
  refine ty_ci ok rfl ?_
  refine ty_add ok rfl ?_
  refine ty_scr ok rfl I.2.1.1 rfl hL (by omega) (by omega) ?_
  obtain ⟨x, mc, ms, ⟨m1, m2⟩, hM⟩ := la_snow (E := E) (l := l) I (I.2.1.2 _)
  refine ty_callVg ok rfl rfl rfl rfl (by exact rfl) rfl hM (by omega) (by omega) (fun σ9 z9 => ?_)
  obtain ⟨k2, g, r2, l2, n2, rfl, ⟨hk0, hg0⟩, hM2⟩ := z9
  refine ty_ldA2 ok rfl ?_
  refine ty_ldA0 ok rfl ?_
  refine ty_ldI4 ok rfl ?_
  refine ty_ci ok rfl ?_
  refine ty_add ok rfl ?_
  refine ty_scr ok rfl hk0 hg0 hL (by omega) (by omega) ?_
  refine ty_callVg ok rfl rfl rfl rfl (by exact rfl) rfl hM2 (Nat.zero_le _) (Nat.zero_le _) (fun σ9 z9 => ?_)
  obtain ⟨k3, g3, r3, l3, n3, rfl, -, I3⟩ := z9
  refine ty_same ok rfl ?_
  exact K _ _ _ _ _ _ _ _ _ _ I3 (by omega) (by omega)
theorem lc_law {E : zE} {tb : List ExceptionTableEntry} {R : Room} {Z : zEd} {L : Nat} {k : Nat → Nat × Nat} {h : Nat → Int → Int} {r : Nat → Int → Option Nat} {l : Nat → Nat → Int64} {n : Nat} {i : Int} {bc bs : Nat} {x5 x6 x7 : Option Value} (ok : zOKr M_L_law tb R 11 P_L_law) (I : LI L k h r n) (i0 : 0 ≤ i) (iL : i + 6 ≤ L) (hL : Nat.ble L 100000 = true) (b1 : 34 ≤ bc) (b2 : 102 ≤ bs)
    (K : ∀ y5 y6 y7 k3 g3 r3 l3 n3 bc2 bs2, LI L k3 g3 r3 n3 → bc ≤ bc2 + 34 → bs ≤ bs2 + 102 → zGy E M_L_law tb R Z 1933 ([some (.ref 0), some (.ref 3), some (.ref 59), some (.ref 86), some (.int (iI i)), y5, y6, y7], [], zJ (k3, g3, r3, l3, n3), bc2, bs2)) : zGy E M_L_law tb R Z 1172 ([some (.ref 0), some (.ref 3), some (.ref 59), some (.ref 86), some (.int (iI i)), x5, x6, x7], [], zJ (k, h, r, l, n), bc, bs) := by
  refine ty_ldA1 ok rfl ?_
  refine ty_ldA0 ok rfl ?_
  refine ty_ldI4 ok rfl ?_
  refine ty_ci ok rfl ?_
  refine ty_add ok rfl ?_
  refine ty_scr ok rfl I.2.1.1 rfl hL (by omega) (by omega) ?_
  obtain ⟨x, mc, ms, ⟨m1, m2⟩, hM⟩ := la_law (E := E) (l := l) I (I.2.1.2 _)
  refine ty_callVg ok rfl rfl rfl rfl (by exact rfl) rfl hM (by omega) (by omega) (fun σ9 z9 => ?_)
  obtain ⟨k2, g, r2, l2, n2, rfl, ⟨hk0, hg0⟩, hM2⟩ := z9
  refine ty_ldA2 ok rfl ?_
  refine ty_ldA0 ok rfl ?_
  refine ty_ldI4 ok rfl ?_
  refine ty_ci ok rfl ?_
  refine ty_add ok rfl ?_
  refine ty_scr ok rfl hk0 hg0 hL (by omega) (by omega) ?_
  refine ty_callVg ok rfl rfl rfl rfl (by exact rfl) rfl hM2 (Nat.zero_le _) (Nat.zero_le _) (fun σ9 z9 => ?_)
  obtain ⟨k3, g3, r3, l3, n3, rfl, -, I3⟩ := z9
  refine ty_same ok rfl ?_
  exact K _ _ _ _ _ _ _ _ _ _ I3 (by omega) (by omega)
theorem lc_bestLate {E : zE} {tb : List ExceptionTableEntry} {R : Room} {Z : zEd} {L : Nat} {k : Nat → Nat × Nat} {h : Nat → Int → Int} {r : Nat → Int → Option Nat} {l : Nat → Nat → Int64} {n : Nat} {i : Int} {bc bs : Nat} {x5 x6 x7 : Option Value} (ok : zOKr M_L_law tb R 11 P_L_law) (I : LI L k h r n) (i0 : 0 ≤ i) (iL : i + 6 ≤ L) (hL : Nat.ble L 100000 = true) (b1 : 34 ≤ bc) (b2 : 102 ≤ bs)
    (K : ∀ y5 y6 y7 k3 g3 r3 l3 n3 bc2 bs2, LI L k3 g3 r3 n3 → bc ≤ bc2 + 34 → bs ≤ bs2 + 102 → zGy E M_L_law tb R Z 1933 ([some (.ref 0), some (.ref 3), some (.ref 59), some (.ref 86), some (.int (iI i)), y5, y6, y7], [], zJ (k3, g3, r3, l3, n3), bc2, bs2)) : zGy E M_L_law tb R Z 1197 ([some (.ref 0), some (.ref 3), some (.ref 59), some (.ref 86), some (.int (iI i)), x5, x6, x7], [], zJ (k, h, r, l, n), bc, bs) := by
  refine ty_ldA1 ok rfl ?_
  obtain ⟨x, mc, ms, ⟨m1, m2⟩, hM⟩ := la_bestLate (E := E) (l := l) I 
  refine ty_callVg ok rfl rfl rfl rfl (by exact rfl) rfl hM (by omega) (by omega) (fun σ9 z9 => ?_)
  obtain ⟨k2, g, r2, l2, n2, rfl, ⟨hk0, hg0⟩, hM2⟩ := z9
  refine ty_ldA2 ok rfl ?_
  refine ty_callVg ok rfl rfl rfl rfl (by exact rfl) rfl hM2 (Nat.zero_le _) (Nat.zero_le _) (fun σ9 z9 => ?_)
  obtain ⟨k3, g3, r3, l3, n3, rfl, -, I3⟩ := z9
  refine ty_same ok rfl ?_
  exact K _ _ _ _ _ _ _ _ _ _ I3 (by omega) (by omega)
theorem lc_worth {E : zE} {tb : List ExceptionTableEntry} {R : Room} {Z : zEd} {L : Nat} {k : Nat → Nat × Nat} {h : Nat → Int → Int} {r : Nat → Int → Option Nat} {l : Nat → Nat → Int64} {n : Nat} {i : Int} {bc bs : Nat} {x5 x6 x7 : Option Value} (ok : zOKr M_L_law tb R 11 P_L_law) (I : LI L k h r n) (i0 : 0 ≤ i) (iL : i + 6 ≤ L) (hL : Nat.ble L 100000 = true) (b1 : 34 ≤ bc) (b2 : 102 ≤ bs)
    (K : ∀ y5 y6 y7 k3 g3 r3 l3 n3 bc2 bs2, LI L k3 g3 r3 n3 → bc ≤ bc2 + 34 → bs ≤ bs2 + 102 → zGy E M_L_law tb R Z 1933 ([some (.ref 0), some (.ref 3), some (.ref 59), some (.ref 86), some (.int (iI i)), y5, y6, y7], [], zJ (k3, g3, r3, l3, n3), bc2, bs2)) : zGy E M_L_law tb R Z 1210 ([some (.ref 0), some (.ref 3), some (.ref 59), some (.ref 86), some (.int (iI i)), x5, x6, x7], [], zJ (k, h, r, l, n), bc, bs) := by
  refine ty_ldA1 ok rfl ?_
  obtain ⟨x, mc, ms, ⟨m1, m2⟩, hM⟩ := la_worth (E := E) (l := l) I 
  refine ty_callVg ok rfl rfl rfl rfl (by exact rfl) rfl hM (by omega) (by omega) (fun σ9 z9 => ?_)
  obtain ⟨k2, g, r2, l2, n2, rfl, ⟨hk0, hg0⟩, hM2⟩ := z9
  refine ty_ldA2 ok rfl ?_
  refine ty_callVg ok rfl rfl rfl rfl (by exact rfl) rfl hM2 (Nat.zero_le _) (Nat.zero_le _) (fun σ9 z9 => ?_)
  obtain ⟨k3, g3, r3, l3, n3, rfl, -, I3⟩ := z9
  refine ty_same ok rfl ?_
  exact K _ _ _ _ _ _ _ _ _ _ I3 (by omega) (by omega)
theorem lc_bestGap {E : zE} {tb : List ExceptionTableEntry} {R : Room} {Z : zEd} {L : Nat} {k : Nat → Nat × Nat} {h : Nat → Int → Int} {r : Nat → Int → Option Nat} {l : Nat → Nat → Int64} {n : Nat} {i : Int} {bc bs : Nat} {x5 x6 x7 : Option Value} (ok : zOKr M_L_law tb R 11 P_L_law) (I : LI L k h r n) (i0 : 0 ≤ i) (iL : i + 6 ≤ L) (hL : Nat.ble L 100000 = true) (b1 : 34 ≤ bc) (b2 : 102 ≤ bs)
    (K : ∀ y5 y6 y7 k3 g3 r3 l3 n3 bc2 bs2, LI L k3 g3 r3 n3 → bc ≤ bc2 + 34 → bs ≤ bs2 + 102 → zGy E M_L_law tb R Z 1933 ([some (.ref 0), some (.ref 3), some (.ref 59), some (.ref 86), some (.int (iI i)), y5, y6, y7], [], zJ (k3, g3, r3, l3, n3), bc2, bs2)) : zGy E M_L_law tb R Z 1223 ([some (.ref 0), some (.ref 3), some (.ref 59), some (.ref 86), some (.int (iI i)), x5, x6, x7], [], zJ (k, h, r, l, n), bc, bs) := by
  refine ty_ldA1 ok rfl ?_
  obtain ⟨x, mc, ms, ⟨m1, m2⟩, hM⟩ := la_bestGap (E := E) (l := l) I 
  refine ty_callVg ok rfl rfl rfl rfl (by exact rfl) rfl hM (by omega) (by omega) (fun σ9 z9 => ?_)
  obtain ⟨k2, g, r2, l2, n2, rfl, ⟨hk0, hg0⟩, hM2⟩ := z9
  refine ty_ldA2 ok rfl ?_
  refine ty_callVg ok rfl rfl rfl rfl (by exact rfl) rfl hM2 (Nat.zero_le _) (Nat.zero_le _) (fun σ9 z9 => ?_)
  obtain ⟨k3, g3, r3, l3, n3, rfl, -, I3⟩ := z9
  refine ty_same ok rfl ?_
  exact K _ _ _ _ _ _ _ _ _ _ I3 (by omega) (by omega)
theorem lc_bestStart {E : zE} {tb : List ExceptionTableEntry} {R : Room} {Z : zEd} {L : Nat} {k : Nat → Nat × Nat} {h : Nat → Int → Int} {r : Nat → Int → Option Nat} {l : Nat → Nat → Int64} {n : Nat} {i : Int} {bc bs : Nat} {x5 x6 x7 : Option Value} (ok : zOKr M_L_law tb R 11 P_L_law) (I : LI L k h r n) (i0 : 0 ≤ i) (iL : i + 6 ≤ L) (hL : Nat.ble L 100000 = true) (b1 : 34 ≤ bc) (b2 : 102 ≤ bs)
    (K : ∀ y5 y6 y7 k3 g3 r3 l3 n3 bc2 bs2, LI L k3 g3 r3 n3 → bc ≤ bc2 + 34 → bs ≤ bs2 + 102 → zGy E M_L_law tb R Z 1933 ([some (.ref 0), some (.ref 3), some (.ref 59), some (.ref 86), some (.int (iI i)), y5, y6, y7], [], zJ (k3, g3, r3, l3, n3), bc2, bs2)) : zGy E M_L_law tb R Z 1236 ([some (.ref 0), some (.ref 3), some (.ref 59), some (.ref 86), some (.int (iI i)), x5, x6, x7], [], zJ (k, h, r, l, n), bc, bs) := by
  refine ty_ldA1 ok rfl ?_
  refine ty_ldA0 ok rfl ?_
  refine ty_ldI4 ok rfl ?_
  refine ty_ci ok rfl ?_
  refine ty_add ok rfl ?_
  refine ty_scr ok rfl I.2.1.1 rfl hL (by omega) (by omega) ?_
  obtain ⟨x, mc, ms, ⟨m1, m2⟩, hM⟩ := la_bestStart (E := E) (l := l) I (I.2.1.2 _)
  refine ty_callVg ok rfl rfl rfl rfl (by exact rfl) rfl hM (by omega) (by omega) (fun σ9 z9 => ?_)
  obtain ⟨k2, g, r2, l2, n2, rfl, ⟨hk0, hg0⟩, hM2⟩ := z9
  refine ty_ldA2 ok rfl ?_
  refine ty_ldA0 ok rfl ?_
  refine ty_ldI4 ok rfl ?_
  refine ty_ci ok rfl ?_
  refine ty_add ok rfl ?_
  refine ty_scr ok rfl hk0 hg0 hL (by omega) (by omega) ?_
  refine ty_callVg ok rfl rfl rfl rfl (by exact rfl) rfl hM2 (Nat.zero_le _) (Nat.zero_le _) (fun σ9 z9 => ?_)
  obtain ⟨k3, g3, r3, l3, n3, rfl, -, I3⟩ := z9
  refine ty_same ok rfl ?_
  exact K _ _ _ _ _ _ _ _ _ _ I3 (by omega) (by omega)
theorem lc_need {E : zE} {tb : List ExceptionTableEntry} {R : Room} {Z : zEd} {L : Nat} {k : Nat → Nat × Nat} {h : Nat → Int → Int} {r : Nat → Int → Option Nat} {l : Nat → Nat → Int64} {n : Nat} {i : Int} {bc bs : Nat} {x5 x6 x7 : Option Value} (ok : zOKr M_L_law tb R 11 P_L_law) (I : LI L k h r n) (i0 : 0 ≤ i) (iL : i + 6 ≤ L) (hL : Nat.ble L 100000 = true) (b1 : 34 ≤ bc) (b2 : 102 ≤ bs)
    (K : ∀ y5 y6 y7 k3 g3 r3 l3 n3 bc2 bs2, LI L k3 g3 r3 n3 → bc ≤ bc2 + 34 → bs ≤ bs2 + 102 → zGy E M_L_law tb R Z 1933 ([some (.ref 0), some (.ref 3), some (.ref 59), some (.ref 86), some (.int (iI i)), y5, y6, y7], [], zJ (k3, g3, r3, l3, n3), bc2, bs2)) : zGy E M_L_law tb R Z 1261 ([some (.ref 0), some (.ref 3), some (.ref 59), some (.ref 86), some (.int (iI i)), x5, x6, x7], [], zJ (k, h, r, l, n), bc, bs) := by
  refine ty_ldA1 ok rfl ?_
  refine ty_ldA0 ok rfl ?_
  refine ty_ldI4 ok rfl ?_
  refine ty_ci ok rfl ?_
  refine ty_add ok rfl ?_
  refine ty_scr ok rfl I.2.1.1 rfl hL (by omega) (by omega) ?_
  obtain ⟨x, mc, ms, ⟨m1, m2⟩, hM⟩ := la_need (E := E) (l := l) I (I.2.1.2 _)
  refine ty_callVg ok rfl rfl rfl rfl (by exact rfl) rfl hM (by omega) (by omega) (fun σ9 z9 => ?_)
  obtain ⟨k2, g, r2, l2, n2, rfl, ⟨hk0, hg0⟩, hM2⟩ := z9
  refine ty_ldA2 ok rfl ?_
  refine ty_ldA0 ok rfl ?_
  refine ty_ldI4 ok rfl ?_
  refine ty_ci ok rfl ?_
  refine ty_add ok rfl ?_
  refine ty_scr ok rfl hk0 hg0 hL (by omega) (by omega) ?_
  refine ty_callVg ok rfl rfl rfl rfl (by exact rfl) rfl hM2 (Nat.zero_le _) (Nat.zero_le _) (fun σ9 z9 => ?_)
  obtain ⟨k3, g3, r3, l3, n3, rfl, -, I3⟩ := z9
  refine ty_same ok rfl ?_
  exact K _ _ _ _ _ _ _ _ _ _ I3 (by omega) (by omega)
theorem lc_extra {E : zE} {tb : List ExceptionTableEntry} {R : Room} {Z : zEd} {L : Nat} {k : Nat → Nat × Nat} {h : Nat → Int → Int} {r : Nat → Int → Option Nat} {l : Nat → Nat → Int64} {n : Nat} {i : Int} {bc bs : Nat} {x5 x6 x7 : Option Value} (ok : zOKr M_L_law tb R 11 P_L_law) (I : LI L k h r n) (i0 : 0 ≤ i) (iL : i + 6 ≤ L) (hL : Nat.ble L 100000 = true) (b1 : 34 ≤ bc) (b2 : 102 ≤ bs)
    (K : ∀ y5 y6 y7 k3 g3 r3 l3 n3 bc2 bs2, LI L k3 g3 r3 n3 → bc ≤ bc2 + 34 → bs ≤ bs2 + 102 → zGy E M_L_law tb R Z 1933 ([some (.ref 0), some (.ref 3), some (.ref 59), some (.ref 86), some (.int (iI i)), y5, y6, y7], [], zJ (k3, g3, r3, l3, n3), bc2, bs2)) : zGy E M_L_law tb R Z 1286 ([some (.ref 0), some (.ref 3), some (.ref 59), some (.ref 86), some (.int (iI i)), x5, x6, x7], [], zJ (k, h, r, l, n), bc, bs) := by
  refine ty_ldA1 ok rfl ?_
  obtain ⟨x, mc, ms, ⟨m1, m2⟩, hM⟩ := la_extra (E := E) (l := l) I 
  refine ty_callVg ok rfl rfl rfl rfl (by exact rfl) rfl hM (by omega) (by omega) (fun σ9 z9 => ?_)
  obtain ⟨k2, g, r2, l2, n2, rfl, ⟨hk0, hg0⟩, hM2⟩ := z9
  refine ty_ldA2 ok rfl ?_
  refine ty_callVg ok rfl rfl rfl rfl (by exact rfl) rfl hM2 (Nat.zero_le _) (Nat.zero_le _) (fun σ9 z9 => ?_)
  obtain ⟨k3, g3, r3, l3, n3, rfl, -, I3⟩ := z9
  refine ty_same ok rfl ?_
  exact K _ _ _ _ _ _ _ _ _ _ I3 (by omega) (by omega)
theorem lc_tickets {E : zE} {tb : List ExceptionTableEntry} {R : Room} {Z : zEd} {L : Nat} {k : Nat → Nat × Nat} {h : Nat → Int → Int} {r : Nat → Int → Option Nat} {l : Nat → Nat → Int64} {n : Nat} {i : Int} {bc bs : Nat} {x5 x6 x7 : Option Value} (ok : zOKr M_L_law tb R 11 P_L_law) (I : LI L k h r n) (i0 : 0 ≤ i) (iL : i + 6 ≤ L) (hL : Nat.ble L 100000 = true) (b1 : 34 ≤ bc) (b2 : 102 ≤ bs)
    (K : ∀ y5 y6 y7 k3 g3 r3 l3 n3 bc2 bs2, LI L k3 g3 r3 n3 → bc ≤ bc2 + 34 → bs ≤ bs2 + 102 → zGy E M_L_law tb R Z 1933 ([some (.ref 0), some (.ref 3), some (.ref 59), some (.ref 86), some (.int (iI i)), y5, y6, y7], [], zJ (k3, g3, r3, l3, n3), bc2, bs2)) : zGy E M_L_law tb R Z 1299 ([some (.ref 0), some (.ref 3), some (.ref 59), some (.ref 86), some (.int (iI i)), x5, x6, x7], [], zJ (k, h, r, l, n), bc, bs) := by
  refine ty_ldA1 ok rfl ?_
  refine ty_ldA0 ok rfl ?_
  refine ty_ldI4 ok rfl ?_
  refine ty_ci ok rfl ?_
  refine ty_add ok rfl ?_
  refine ty_scr ok rfl I.2.1.1 rfl hL (by omega) (by omega) ?_
  refine ty_ldA0 ok rfl ?_
  refine ty_ldI4 ok rfl ?_
  refine ty_ci ok rfl ?_
  refine ty_add ok rfl ?_
  refine ty_scr ok rfl I.2.1.1 rfl hL (by omega) (by omega) ?_
  obtain ⟨x, mc, ms, ⟨m1, m2⟩, hM⟩ := la_tickets (E := E) (l := l) I (I.2.1.2 _) (I.2.1.2 _)
  refine ty_callVg ok rfl rfl rfl rfl (by exact rfl) rfl hM (by omega) (by omega) (fun σ9 z9 => ?_)
  obtain ⟨k2, g, r2, l2, n2, rfl, ⟨hk0, hg0⟩, hM2⟩ := z9
  refine ty_ldA2 ok rfl ?_
  refine ty_ldA0 ok rfl ?_
  refine ty_ldI4 ok rfl ?_
  refine ty_ci ok rfl ?_
  refine ty_add ok rfl ?_
  refine ty_scr ok rfl hk0 hg0 hL (by omega) (by omega) ?_
  refine ty_ldA0 ok rfl ?_
  refine ty_ldI4 ok rfl ?_
  refine ty_ci ok rfl ?_
  refine ty_add ok rfl ?_
  refine ty_scr ok rfl hk0 hg0 hL (by omega) (by omega) ?_
  refine ty_callVg ok rfl rfl rfl rfl (by exact rfl) rfl hM2 (Nat.zero_le _) (Nat.zero_le _) (fun σ9 z9 => ?_)
  obtain ⟨k3, g3, r3, l3, n3, rfl, -, I3⟩ := z9
  refine ty_same ok rfl ?_
  exact K _ _ _ _ _ _ _ _ _ _ I3 (by omega) (by omega)
theorem lc_forged {E : zE} {tb : List ExceptionTableEntry} {R : Room} {Z : zEd} {L : Nat} {k : Nat → Nat × Nat} {h : Nat → Int → Int} {r : Nat → Int → Option Nat} {l : Nat → Nat → Int64} {n : Nat} {i : Int} {bc bs : Nat} {x5 x6 x7 : Option Value} (ok : zOKr M_L_law tb R 11 P_L_law) (I : LI L k h r n) (i0 : 0 ≤ i) (iL : i + 6 ≤ L) (hL : Nat.ble L 100000 = true) (b1 : 34 ≤ bc) (b2 : 102 ≤ bs)
    (K : ∀ y5 y6 y7 k3 g3 r3 l3 n3 bc2 bs2, LI L k3 g3 r3 n3 → bc ≤ bc2 + 34 → bs ≤ bs2 + 102 → zGy E M_L_law tb R Z 1933 ([some (.ref 0), some (.ref 3), some (.ref 59), some (.ref 86), some (.int (iI i)), y5, y6, y7], [], zJ (k3, g3, r3, l3, n3), bc2, bs2)) : zGy E M_L_law tb R Z 1336 ([some (.ref 0), some (.ref 3), some (.ref 59), some (.ref 86), some (.int (iI i)), x5, x6, x7], [], zJ (k, h, r, l, n), bc, bs) := by
  refine ty_ldA1 ok rfl ?_
  refine ty_ldA0 ok rfl ?_
  refine ty_ldI4 ok rfl ?_
  refine ty_ci ok rfl ?_
  refine ty_add ok rfl ?_
  refine ty_scr ok rfl I.2.1.1 rfl hL (by omega) (by omega) ?_
  obtain ⟨x, mc, ms, ⟨m1, m2⟩, hM⟩ := la_forged (E := E) (l := l) I (I.2.1.2 _)
  refine ty_callVg ok rfl rfl rfl rfl (by exact rfl) rfl hM (by omega) (by omega) (fun σ9 z9 => ?_)
  obtain ⟨k2, g, r2, l2, n2, rfl, ⟨hk0, hg0⟩, hM2⟩ := z9
  refine ty_ldA2 ok rfl ?_
  refine ty_ldA0 ok rfl ?_
  refine ty_ldI4 ok rfl ?_
  refine ty_ci ok rfl ?_
  refine ty_add ok rfl ?_
  refine ty_scr ok rfl hk0 hg0 hL (by omega) (by omega) ?_
  refine ty_callVg ok rfl rfl rfl rfl (by exact rfl) rfl hM2 (Nat.zero_le _) (Nat.zero_le _) (fun σ9 z9 => ?_)
  obtain ⟨k3, g3, r3, l3, n3, rfl, -, I3⟩ := z9
  refine ty_same ok rfl ?_
  exact K _ _ _ _ _ _ _ _ _ _ I3 (by omega) (by omega)
theorem lc_came {E : zE} {tb : List ExceptionTableEntry} {R : Room} {Z : zEd} {L : Nat} {k : Nat → Nat × Nat} {h : Nat → Int → Int} {r : Nat → Int → Option Nat} {l : Nat → Nat → Int64} {n : Nat} {i : Int} {bc bs : Nat} {x5 x6 x7 : Option Value} (ok : zOKr M_L_law tb R 11 P_L_law) (I : LI L k h r n) (i0 : 0 ≤ i) (iL : i + 6 ≤ L) (hL : Nat.ble L 100000 = true) (b1 : 34 ≤ bc) (b2 : 102 ≤ bs)
    (K : ∀ y5 y6 y7 k3 g3 r3 l3 n3 bc2 bs2, LI L k3 g3 r3 n3 → bc ≤ bc2 + 34 → bs ≤ bs2 + 102 → zGy E M_L_law tb R Z 1933 ([some (.ref 0), some (.ref 3), some (.ref 59), some (.ref 86), some (.int (iI i)), y5, y6, y7], [], zJ (k3, g3, r3, l3, n3), bc2, bs2)) : zGy E M_L_law tb R Z 1361 ([some (.ref 0), some (.ref 3), some (.ref 59), some (.ref 86), some (.int (iI i)), x5, x6, x7], [], zJ (k, h, r, l, n), bc, bs) := by
  refine ty_ldA1 ok rfl ?_
  refine ty_ldA0 ok rfl ?_
  refine ty_ldI4 ok rfl ?_
  refine ty_ci ok rfl ?_
  refine ty_add ok rfl ?_
  refine ty_scr ok rfl I.2.1.1 rfl hL (by omega) (by omega) ?_
  refine ty_ldA0 ok rfl ?_
  refine ty_ldI4 ok rfl ?_
  refine ty_ci ok rfl ?_
  refine ty_add ok rfl ?_
  refine ty_scr ok rfl I.2.1.1 rfl hL (by omega) (by omega) ?_
  refine ty_ldA0 ok rfl ?_
  refine ty_ldI4 ok rfl ?_
  refine ty_ci ok rfl ?_
  refine ty_add ok rfl ?_
  refine ty_scr ok rfl I.2.1.1 rfl hL (by omega) (by omega) ?_
  obtain ⟨x, mc, ms, ⟨m1, m2⟩, hM⟩ := la_came (E := E) (l := l) I (I.2.1.2 _) (I.2.1.2 _) (I.2.1.2 _)
  refine ty_callVg ok rfl rfl rfl rfl (by exact rfl) rfl hM (by omega) (by omega) (fun σ9 z9 => ?_)
  obtain ⟨k2, g, r2, l2, n2, rfl, ⟨hk0, hg0⟩, hM2⟩ := z9
  refine ty_ldA2 ok rfl ?_
  refine ty_ldA0 ok rfl ?_
  refine ty_ldI4 ok rfl ?_
  refine ty_ci ok rfl ?_
  refine ty_add ok rfl ?_
  refine ty_scr ok rfl hk0 hg0 hL (by omega) (by omega) ?_
  refine ty_ldA0 ok rfl ?_
  refine ty_ldI4 ok rfl ?_
  refine ty_ci ok rfl ?_
  refine ty_add ok rfl ?_
  refine ty_scr ok rfl hk0 hg0 hL (by omega) (by omega) ?_
  refine ty_ldA0 ok rfl ?_
  refine ty_ldI4 ok rfl ?_
  refine ty_ci ok rfl ?_
  refine ty_add ok rfl ?_
  refine ty_scr ok rfl hk0 hg0 hL (by omega) (by omega) ?_
  refine ty_callVg ok rfl rfl rfl rfl (by exact rfl) rfl hM2 (Nat.zero_le _) (Nat.zero_le _) (fun σ9 z9 => ?_)
  obtain ⟨k3, g3, r3, l3, n3, rfl, -, I3⟩ := z9
  refine ty_same ok rfl ?_
  exact K _ _ _ _ _ _ _ _ _ _ I3 (by omega) (by omega)
theorem lc_sure {E : zE} {tb : List ExceptionTableEntry} {R : Room} {Z : zEd} {L : Nat} {k : Nat → Nat × Nat} {h : Nat → Int → Int} {r : Nat → Int → Option Nat} {l : Nat → Nat → Int64} {n : Nat} {i : Int} {bc bs : Nat} {x5 x6 x7 : Option Value} (ok : zOKr M_L_law tb R 11 P_L_law) (I : LI L k h r n) (i0 : 0 ≤ i) (iL : i + 6 ≤ L) (hL : Nat.ble L 100000 = true) (b1 : 34 ≤ bc) (b2 : 102 ≤ bs)
    (K : ∀ y5 y6 y7 k3 g3 r3 l3 n3 bc2 bs2, LI L k3 g3 r3 n3 → bc ≤ bc2 + 34 → bs ≤ bs2 + 102 → zGy E M_L_law tb R Z 1933 ([some (.ref 0), some (.ref 3), some (.ref 59), some (.ref 86), some (.int (iI i)), y5, y6, y7], [], zJ (k3, g3, r3, l3, n3), bc2, bs2)) : zGy E M_L_law tb R Z 1410 ([some (.ref 0), some (.ref 3), some (.ref 59), some (.ref 86), some (.int (iI i)), x5, x6, x7], [], zJ (k, h, r, l, n), bc, bs) := by
  refine ty_ldA1 ok rfl ?_
  refine ty_ldA0 ok rfl ?_
  refine ty_ldI4 ok rfl ?_
  refine ty_ci ok rfl ?_
  refine ty_add ok rfl ?_
  refine ty_scr ok rfl I.2.1.1 rfl hL (by omega) (by omega) ?_
  refine ty_ldA0 ok rfl ?_
  refine ty_ldI4 ok rfl ?_
  refine ty_ci ok rfl ?_
  refine ty_add ok rfl ?_
  refine ty_scr ok rfl I.2.1.1 rfl hL (by omega) (by omega) ?_
  obtain ⟨x, mc, ms, ⟨m1, m2⟩, hM⟩ := la_sure (E := E) (l := l) I (I.2.1.2 _) (I.2.1.2 _)
  refine ty_callVg ok rfl rfl rfl rfl (by exact rfl) rfl hM (by omega) (by omega) (fun σ9 z9 => ?_)
  obtain ⟨k2, g, r2, l2, n2, rfl, ⟨hk0, hg0⟩, hM2⟩ := z9
  refine ty_ldA2 ok rfl ?_
  refine ty_ldA0 ok rfl ?_
  refine ty_ldI4 ok rfl ?_
  refine ty_ci ok rfl ?_
  refine ty_add ok rfl ?_
  refine ty_scr ok rfl hk0 hg0 hL (by omega) (by omega) ?_
  refine ty_ldA0 ok rfl ?_
  refine ty_ldI4 ok rfl ?_
  refine ty_ci ok rfl ?_
  refine ty_add ok rfl ?_
  refine ty_scr ok rfl hk0 hg0 hL (by omega) (by omega) ?_
  refine ty_callVg ok rfl rfl rfl rfl (by exact rfl) rfl hM2 (Nat.zero_le _) (Nat.zero_le _) (fun σ9 z9 => ?_)
  obtain ⟨k3, g3, r3, l3, n3, rfl, -, I3⟩ := z9
  refine ty_same ok rfl ?_
  exact K _ _ _ _ _ _ _ _ _ _ I3 (by omega) (by omega)
theorem lc_judge {E : zE} {tb : List ExceptionTableEntry} {R : Room} {Z : zEd} {L : Nat} {k : Nat → Nat × Nat} {h : Nat → Int → Int} {r : Nat → Int → Option Nat} {l : Nat → Nat → Int64} {n : Nat} {i : Int} {bc bs : Nat} {x5 x6 x7 : Option Value} (ok : zOKr M_L_law tb R 11 P_L_law) (I : LI L k h r n) (i0 : 0 ≤ i) (iL : i + 6 ≤ L) (hL : Nat.ble L 100000 = true) (b1 : 34 ≤ bc) (b2 : 102 ≤ bs)
    (K : ∀ y5 y6 y7 k3 g3 r3 l3 n3 bc2 bs2, LI L k3 g3 r3 n3 → bc ≤ bc2 + 34 → bs ≤ bs2 + 102 → zGy E M_L_law tb R Z 1933 ([some (.ref 0), some (.ref 3), some (.ref 59), some (.ref 86), some (.int (iI i)), y5, y6, y7], [], zJ (k3, g3, r3, l3, n3), bc2, bs2)) : zGy E M_L_law tb R Z 1447 ([some (.ref 0), some (.ref 3), some (.ref 59), some (.ref 86), some (.int (iI i)), x5, x6, x7], [], zJ (k, h, r, l, n), bc, bs) := by
  refine ty_ldA1 ok rfl ?_
  refine ty_ldA0 ok rfl ?_
  refine ty_ldI4 ok rfl ?_
  refine ty_ci ok rfl ?_
  refine ty_add ok rfl ?_
  refine ty_scr ok rfl I.2.1.1 rfl hL (by omega) (by omega) ?_
  refine ty_ldA0 ok rfl ?_
  refine ty_ldI4 ok rfl ?_
  refine ty_ci ok rfl ?_
  refine ty_add ok rfl ?_
  refine ty_scr ok rfl I.2.1.1 rfl hL (by omega) (by omega) ?_
  obtain ⟨x, mc, ms, ⟨m1, m2⟩, hM⟩ := la_judge (E := E) (l := l) I (I.2.1.2 _) (I.2.1.2 _)
  refine ty_callVg ok rfl rfl rfl rfl (by exact rfl) rfl hM (by omega) (by omega) (fun σ9 z9 => ?_)
  obtain ⟨k2, g, r2, l2, n2, rfl, ⟨hk0, hg0⟩, hM2⟩ := z9
  refine ty_ldA2 ok rfl ?_
  refine ty_ldA0 ok rfl ?_
  refine ty_ldI4 ok rfl ?_
  refine ty_ci ok rfl ?_
  refine ty_add ok rfl ?_
  refine ty_scr ok rfl hk0 hg0 hL (by omega) (by omega) ?_
  refine ty_ldA0 ok rfl ?_
  refine ty_ldI4 ok rfl ?_
  refine ty_ci ok rfl ?_
  refine ty_add ok rfl ?_
  refine ty_scr ok rfl hk0 hg0 hL (by omega) (by omega) ?_
  refine ty_callVg ok rfl rfl rfl rfl (by exact rfl) rfl hM2 (Nat.zero_le _) (Nat.zero_le _) (fun σ9 z9 => ?_)
  obtain ⟨k3, g3, r3, l3, n3, rfl, -, I3⟩ := z9
  refine ty_same ok rfl ?_
  exact K _ _ _ _ _ _ _ _ _ _ I3 (by omega) (by omega)
theorem lc_mornings {E : zE} {tb : List ExceptionTableEntry} {R : Room} {Z : zEd} {L : Nat} {k : Nat → Nat × Nat} {h : Nat → Int → Int} {r : Nat → Int → Option Nat} {l : Nat → Nat → Int64} {n : Nat} {i : Int} {bc bs : Nat} {x5 x6 x7 : Option Value} (ok : zOKr M_L_law tb R 11 P_L_law) (I : LI L k h r n) (i0 : 0 ≤ i) (iL : i + 6 ≤ L) (hL : Nat.ble L 100000 = true) (b1 : 34 ≤ bc) (b2 : 102 ≤ bs)
    (K : ∀ y5 y6 y7 k3 g3 r3 l3 n3 bc2 bs2, LI L k3 g3 r3 n3 → bc ≤ bc2 + 34 → bs ≤ bs2 + 102 → zGy E M_L_law tb R Z 1933 ([some (.ref 0), some (.ref 3), some (.ref 59), some (.ref 86), some (.int (iI i)), y5, y6, y7], [], zJ (k3, g3, r3, l3, n3), bc2, bs2)) : zGy E M_L_law tb R Z 1484 ([some (.ref 0), some (.ref 3), some (.ref 59), some (.ref 86), some (.int (iI i)), x5, x6, x7], [], zJ (k, h, r, l, n), bc, bs) := by
  refine ty_ldA1 ok rfl ?_
  refine ty_ldA0 ok rfl ?_
  refine ty_ldI4 ok rfl ?_
  refine ty_ci ok rfl ?_
  refine ty_add ok rfl ?_
  refine ty_scr ok rfl I.2.1.1 rfl hL (by omega) (by omega) ?_
  refine ty_ldA0 ok rfl ?_
  refine ty_ldI4 ok rfl ?_
  refine ty_ci ok rfl ?_
  refine ty_add ok rfl ?_
  refine ty_scr ok rfl I.2.1.1 rfl hL (by omega) (by omega) ?_
  refine ty_ldA0 ok rfl ?_
  refine ty_ldI4 ok rfl ?_
  refine ty_ci ok rfl ?_
  refine ty_add ok rfl ?_
  refine ty_scr ok rfl I.2.1.1 rfl hL (by omega) (by omega) ?_
  obtain ⟨x, mc, ms, ⟨m1, m2⟩, hM⟩ := la_mornings (E := E) (l := l) I (I.2.1.2 _) (I.2.1.2 _) (I.2.1.2 _)
  refine ty_callVg ok rfl rfl rfl rfl (by exact rfl) rfl hM (by omega) (by omega) (fun σ9 z9 => ?_)
  obtain ⟨k2, g, r2, l2, n2, rfl, ⟨hk0, hg0⟩, hM2⟩ := z9
  refine ty_ldA2 ok rfl ?_
  refine ty_ldA0 ok rfl ?_
  refine ty_ldI4 ok rfl ?_
  refine ty_ci ok rfl ?_
  refine ty_add ok rfl ?_
  refine ty_scr ok rfl hk0 hg0 hL (by omega) (by omega) ?_
  refine ty_ldA0 ok rfl ?_
  refine ty_ldI4 ok rfl ?_
  refine ty_ci ok rfl ?_
  refine ty_add ok rfl ?_
  refine ty_scr ok rfl hk0 hg0 hL (by omega) (by omega) ?_
  refine ty_ldA0 ok rfl ?_
  refine ty_ldI4 ok rfl ?_
  refine ty_ci ok rfl ?_
  refine ty_add ok rfl ?_
  refine ty_scr ok rfl hk0 hg0 hL (by omega) (by omega) ?_
  refine ty_callVg ok rfl rfl rfl rfl (by exact rfl) rfl hM2 (Nat.zero_le _) (Nat.zero_le _) (fun σ9 z9 => ?_)
  obtain ⟨k3, g3, r3, l3, n3, rfl, -, I3⟩ := z9
  refine ty_same ok rfl ?_
  exact K _ _ _ _ _ _ _ _ _ _ I3 (by omega) (by omega)
theorem lc_image {E : zE} {tb : List ExceptionTableEntry} {R : Room} {Z : zEd} {L : Nat} {k : Nat → Nat × Nat} {h : Nat → Int → Int} {r : Nat → Int → Option Nat} {l : Nat → Nat → Int64} {n : Nat} {i : Int} {bc bs : Nat} {x5 x6 x7 : Option Value} (ok : zOKr M_L_law tb R 11 P_L_law) (I : LI L k h r n) (i0 : 0 ≤ i) (iL : i + 6 ≤ L) (hL : Nat.ble L 100000 = true) (b1 : 34 ≤ bc) (b2 : 102 ≤ bs)
    (K : ∀ y5 y6 y7 k3 g3 r3 l3 n3 bc2 bs2, LI L k3 g3 r3 n3 → bc ≤ bc2 + 34 → bs ≤ bs2 + 102 → zGy E M_L_law tb R Z 1933 ([some (.ref 0), some (.ref 3), some (.ref 59), some (.ref 86), some (.int (iI i)), y5, y6, y7], [], zJ (k3, g3, r3, l3, n3), bc2, bs2)) : zGy E M_L_law tb R Z 1533 ([some (.ref 0), some (.ref 3), some (.ref 59), some (.ref 86), some (.int (iI i)), x5, x6, x7], [], zJ (k, h, r, l, n), bc, bs) := by
  refine ty_ldA1 ok rfl ?_
  obtain ⟨x, mc, ms, ⟨m1, m2⟩, hM⟩ := la_image (E := E) (l := l) I 
  refine ty_callVg ok rfl rfl rfl rfl (by exact rfl) rfl hM (by omega) (by omega) (fun σ9 z9 => ?_)
  obtain ⟨k2, g, r2, l2, n2, rfl, ⟨hk0, hg0⟩, hM2⟩ := z9
  refine ty_ldA2 ok rfl ?_
  refine ty_callVg ok rfl rfl rfl rfl (by exact rfl) rfl hM2 (Nat.zero_le _) (Nat.zero_le _) (fun σ9 z9 => ?_)
  obtain ⟨k3, g3, r3, l3, n3, rfl, -, I3⟩ := z9
  refine ty_same ok rfl ?_
  exact K _ _ _ _ _ _ _ _ _ _ I3 (by omega) (by omega)
theorem lc_restore {E : zE} {tb : List ExceptionTableEntry} {R : Room} {Z : zEd} {L : Nat} {k : Nat → Nat × Nat} {h : Nat → Int → Int} {r : Nat → Int → Option Nat} {l : Nat → Nat → Int64} {n : Nat} {i : Int} {bc bs : Nat} {x5 x6 x7 : Option Value} (ok : zOKr M_L_law tb R 11 P_L_law) (I : LI L k h r n) (i0 : 0 ≤ i) (iL : i + 6 ≤ L) (hL : Nat.ble L 100000 = true) (b1 : 34 ≤ bc) (b2 : 102 ≤ bs)
    (K : ∀ y5 y6 y7 k3 g3 r3 l3 n3 bc2 bs2, LI L k3 g3 r3 n3 → bc ≤ bc2 + 34 → bs ≤ bs2 + 102 → zGy E M_L_law tb R Z 1933 ([some (.ref 0), some (.ref 3), some (.ref 59), some (.ref 86), some (.int (iI i)), y5, y6, y7], [], zJ (k3, g3, r3, l3, n3), bc2, bs2)) : zGy E M_L_law tb R Z 1546 ([some (.ref 0), some (.ref 3), some (.ref 59), some (.ref 86), some (.int (iI i)), x5, x6, x7], [], zJ (k, h, r, l, n), bc, bs) := by
  refine ty_ldA1 ok rfl ?_
  obtain ⟨x, mc, ms, ⟨m1, m2⟩, hM⟩ := la_restore (E := E) (l := l) I 
  refine ty_callVg ok rfl rfl rfl rfl (by exact rfl) rfl hM (by omega) (by omega) (fun σ9 z9 => ?_)
  obtain ⟨k2, g, r2, l2, n2, rfl, ⟨hk0, hg0⟩, hM2⟩ := z9
  refine ty_ldA2 ok rfl ?_
  refine ty_callVg ok rfl rfl rfl rfl (by exact rfl) rfl hM2 (Nat.zero_le _) (Nat.zero_le _) (fun σ9 z9 => ?_)
  obtain ⟨k3, g3, r3, l3, n3, rfl, -, I3⟩ := z9
  refine ty_same ok rfl ?_
  exact K _ _ _ _ _ _ _ _ _ _ I3 (by omega) (by omega)
theorem lc_count {E : zE} {tb : List ExceptionTableEntry} {R : Room} {Z : zEd} {L : Nat} {k : Nat → Nat × Nat} {h : Nat → Int → Int} {r : Nat → Int → Option Nat} {l : Nat → Nat → Int64} {n : Nat} {i : Int} {bc bs : Nat} {x5 x6 x7 : Option Value} (ok : zOKr M_L_law tb R 11 P_L_law) (I : LI L k h r n) (i0 : 0 ≤ i) (iL : i + 6 ≤ L) (hL : Nat.ble L 100000 = true) (b1 : 34 ≤ bc) (b2 : 102 ≤ bs)
    (K : ∀ y5 y6 y7 k3 g3 r3 l3 n3 bc2 bs2, LI L k3 g3 r3 n3 → bc ≤ bc2 + 34 → bs ≤ bs2 + 102 → zGy E M_L_law tb R Z 1933 ([some (.ref 0), some (.ref 3), some (.ref 59), some (.ref 86), some (.int (iI i)), y5, y6, y7], [], zJ (k3, g3, r3, l3, n3), bc2, bs2)) : zGy E M_L_law tb R Z 1559 ([some (.ref 0), some (.ref 3), some (.ref 59), some (.ref 86), some (.int (iI i)), x5, x6, x7], [], zJ (k, h, r, l, n), bc, bs) := by
  refine ty_ldA1 ok rfl ?_
  refine ty_ldA0 ok rfl ?_
  refine ty_ldI4 ok rfl ?_
  refine ty_ci ok rfl ?_
  refine ty_add ok rfl ?_
  refine ty_scr ok rfl I.2.1.1 rfl hL (by omega) (by omega) ?_
  obtain ⟨x, mc, ms, ⟨m1, m2⟩, hM⟩ := la_count (E := E) (l := l) I (I.2.1.2 _)
  refine ty_callVg ok rfl rfl rfl rfl (by exact rfl) rfl hM (by omega) (by omega) (fun σ9 z9 => ?_)
  obtain ⟨k2, g, r2, l2, n2, rfl, ⟨hk0, hg0⟩, hM2⟩ := z9
  refine ty_ldA2 ok rfl ?_
  refine ty_ldA0 ok rfl ?_
  refine ty_ldI4 ok rfl ?_
  refine ty_ci ok rfl ?_
  refine ty_add ok rfl ?_
  refine ty_scr ok rfl hk0 hg0 hL (by omega) (by omega) ?_
  refine ty_callVg ok rfl rfl rfl rfl (by exact rfl) rfl hM2 (Nat.zero_le _) (Nat.zero_le _) (fun σ9 z9 => ?_)
  obtain ⟨k3, g3, r3, l3, n3, rfl, -, I3⟩ := z9
  refine ty_same ok rfl ?_
  exact K _ _ _ _ _ _ _ _ _ _ I3 (by omega) (by omega)
theorem lc_keep {E : zE} {tb : List ExceptionTableEntry} {R : Room} {Z : zEd} {L : Nat} {k : Nat → Nat × Nat} {h : Nat → Int → Int} {r : Nat → Int → Option Nat} {l : Nat → Nat → Int64} {n : Nat} {i : Int} {bc bs : Nat} {x5 x6 x7 : Option Value} (ok : zOKr M_L_law tb R 11 P_L_law) (I : LI L k h r n) (i0 : 0 ≤ i) (iL : i + 6 ≤ L) (hL : Nat.ble L 100000 = true) (b1 : 34 ≤ bc) (b2 : 102 ≤ bs)
    (K : ∀ y5 y6 y7 k3 g3 r3 l3 n3 bc2 bs2, LI L k3 g3 r3 n3 → bc ≤ bc2 + 34 → bs ≤ bs2 + 102 → zGy E M_L_law tb R Z 1933 ([some (.ref 0), some (.ref 3), some (.ref 59), some (.ref 86), some (.int (iI i)), y5, y6, y7], [], zJ (k3, g3, r3, l3, n3), bc2, bs2)) : zGy E M_L_law tb R Z 1584 ([some (.ref 0), some (.ref 3), some (.ref 59), some (.ref 86), some (.int (iI i)), x5, x6, x7], [], zJ (k, h, r, l, n), bc, bs) := by
  refine ty_ldA1 ok rfl ?_
  refine ty_ldA0 ok rfl ?_
  refine ty_ldI4 ok rfl ?_
  refine ty_ci ok rfl ?_
  refine ty_add ok rfl ?_
  refine ty_scr ok rfl I.2.1.1 rfl hL (by omega) (by omega) ?_
  refine ty_ldA0 ok rfl ?_
  refine ty_ldI4 ok rfl ?_
  refine ty_ci ok rfl ?_
  refine ty_add ok rfl ?_
  refine ty_scr ok rfl I.2.1.1 rfl hL (by omega) (by omega) ?_
  refine ty_ldA0 ok rfl ?_
  refine ty_ldI4 ok rfl ?_
  refine ty_ci ok rfl ?_
  refine ty_add ok rfl ?_
  refine ty_scr ok rfl I.2.1.1 rfl hL (by omega) (by omega) ?_
  refine ty_ldA0 ok rfl ?_
  refine ty_ldI4 ok rfl ?_
  refine ty_ci ok rfl ?_
  refine ty_add ok rfl ?_
  refine ty_scr ok rfl I.2.1.1 rfl hL (by omega) (by omega) ?_
  obtain ⟨x, mc, ms, ⟨m1, m2⟩, hM⟩ := la_keep (E := E) (l := l) I (I.2.1.2 _) (I.2.1.2 _) (I.2.1.2 _) (I.2.1.2 _)
  refine ty_callVg ok rfl rfl rfl rfl (by exact rfl) rfl hM (by omega) (by omega) (fun σ9 z9 => ?_)
  obtain ⟨k2, g, r2, l2, n2, rfl, ⟨hk0, hg0⟩, hM2⟩ := z9
  refine ty_ldA2 ok rfl ?_
  refine ty_ldA0 ok rfl ?_
  refine ty_ldI4 ok rfl ?_
  refine ty_ci ok rfl ?_
  refine ty_add ok rfl ?_
  refine ty_scr ok rfl hk0 hg0 hL (by omega) (by omega) ?_
  refine ty_ldA0 ok rfl ?_
  refine ty_ldI4 ok rfl ?_
  refine ty_ci ok rfl ?_
  refine ty_add ok rfl ?_
  refine ty_scr ok rfl hk0 hg0 hL (by omega) (by omega) ?_
  refine ty_ldA0 ok rfl ?_
  refine ty_ldI4 ok rfl ?_
  refine ty_ci ok rfl ?_
  refine ty_add ok rfl ?_
  refine ty_scr ok rfl hk0 hg0 hL (by omega) (by omega) ?_
  refine ty_ldA0 ok rfl ?_
  refine ty_ldI4 ok rfl ?_
  refine ty_ci ok rfl ?_
  refine ty_add ok rfl ?_
  refine ty_scr ok rfl hk0 hg0 hL (by omega) (by omega) ?_
  refine ty_callVg ok rfl rfl rfl rfl (by exact rfl) rfl hM2 (Nat.zero_le _) (Nat.zero_le _) (fun σ9 z9 => ?_)
  obtain ⟨k3, g3, r3, l3, n3, rfl, -, I3⟩ := z9
  refine ty_same ok rfl ?_
  exact K _ _ _ _ _ _ _ _ _ _ I3 (by omega) (by omega)
theorem lc_row {E : zE} {tb : List ExceptionTableEntry} {R : Room} {Z : zEd} {L : Nat} {k : Nat → Nat × Nat} {h : Nat → Int → Int} {r : Nat → Int → Option Nat} {l : Nat → Nat → Int64} {n : Nat} {i : Int} {bc bs : Nat} {x5 x6 x7 : Option Value} (ok : zOKr M_L_law tb R 11 P_L_law) (I : LI L k h r n) (i0 : 0 ≤ i) (iL : i + 6 ≤ L) (hL : Nat.ble L 100000 = true) (b1 : 34 ≤ bc) (b2 : 102 ≤ bs)
    (K : ∀ y5 y6 y7 k3 g3 r3 l3 n3 bc2 bs2, LI L k3 g3 r3 n3 → bc ≤ bc2 + 34 → bs ≤ bs2 + 102 → zGy E M_L_law tb R Z 1933 ([some (.ref 0), some (.ref 3), some (.ref 59), some (.ref 86), some (.int (iI i)), y5, y6, y7], [], zJ (k3, g3, r3, l3, n3), bc2, bs2)) : zGy E M_L_law tb R Z 1645 ([some (.ref 0), some (.ref 3), some (.ref 59), some (.ref 86), some (.int (iI i)), x5, x6, x7], [], zJ (k, h, r, l, n), bc, bs) := by
  refine ty_ldA1 ok rfl ?_
  refine ty_ldA0 ok rfl ?_
  refine ty_ldI4 ok rfl ?_
  refine ty_ci ok rfl ?_
  refine ty_add ok rfl ?_
  refine ty_scr ok rfl I.2.1.1 rfl hL (by omega) (by omega) ?_
  refine ty_ldA0 ok rfl ?_
  refine ty_ldI4 ok rfl ?_
  refine ty_ci ok rfl ?_
  refine ty_add ok rfl ?_
  refine ty_scr ok rfl I.2.1.1 rfl hL (by omega) (by omega) ?_
  refine ty_ldA0 ok rfl ?_
  refine ty_ldI4 ok rfl ?_
  refine ty_ci ok rfl ?_
  refine ty_add ok rfl ?_
  refine ty_scr ok rfl I.2.1.1 rfl hL (by omega) (by omega) ?_
  obtain ⟨x, mc, ms, ⟨m1, m2⟩, hM⟩ := la_row (E := E) (l := l) I (I.2.1.2 _) (I.2.1.2 _) (I.2.1.2 _)
  refine ty_callVg ok rfl rfl rfl rfl (by exact rfl) rfl hM (by omega) (by omega) (fun σ9 z9 => ?_)
  obtain ⟨k2, g, r2, l2, n2, rfl, ⟨hk0, hg0⟩, hM2⟩ := z9
  refine ty_ldA2 ok rfl ?_
  refine ty_ldA0 ok rfl ?_
  refine ty_ldI4 ok rfl ?_
  refine ty_ci ok rfl ?_
  refine ty_add ok rfl ?_
  refine ty_scr ok rfl hk0 hg0 hL (by omega) (by omega) ?_
  refine ty_ldA0 ok rfl ?_
  refine ty_ldI4 ok rfl ?_
  refine ty_ci ok rfl ?_
  refine ty_add ok rfl ?_
  refine ty_scr ok rfl hk0 hg0 hL (by omega) (by omega) ?_
  refine ty_ldA0 ok rfl ?_
  refine ty_ldI4 ok rfl ?_
  refine ty_ci ok rfl ?_
  refine ty_add ok rfl ?_
  refine ty_scr ok rfl hk0 hg0 hL (by omega) (by omega) ?_
  refine ty_callVg ok rfl rfl rfl rfl (by exact rfl) rfl hM2 (Nat.zero_le _) (Nat.zero_le _) (fun σ9 z9 => ?_)
  obtain ⟨k3, g3, r3, l3, n3, rfl, -, I3⟩ := z9
  refine ty_same ok rfl ?_
  exact K _ _ _ _ _ _ _ _ _ _ I3 (by omega) (by omega)
theorem lc_put {E : zE} {tb : List ExceptionTableEntry} {R : Room} {Z : zEd} {L : Nat} {k : Nat → Nat × Nat} {h : Nat → Int → Int} {r : Nat → Int → Option Nat} {l : Nat → Nat → Int64} {n : Nat} {i : Int} {bc bs : Nat} {x5 x6 x7 : Option Value} (ok : zOKr M_L_law tb R 11 P_L_law) (I : LI L k h r n) (i0 : 0 ≤ i) (iL : i + 6 ≤ L) (hL : Nat.ble L 100000 = true) (b1 : 34 ≤ bc) (b2 : 102 ≤ bs)
    (K : ∀ y5 y6 y7 k3 g3 r3 l3 n3 bc2 bs2, LI L k3 g3 r3 n3 → bc ≤ bc2 + 34 → bs ≤ bs2 + 102 → zGy E M_L_law tb R Z 1933 ([some (.ref 0), some (.ref 3), some (.ref 59), some (.ref 86), some (.int (iI i)), y5, y6, y7], [], zJ (k3, g3, r3, l3, n3), bc2, bs2)) : zGy E M_L_law tb R Z 1694 ([some (.ref 0), some (.ref 3), some (.ref 59), some (.ref 86), some (.int (iI i)), x5, x6, x7], [], zJ (k, h, r, l, n), bc, bs) := by
  refine ty_ldA1 ok rfl ?_
  refine ty_ldA0 ok rfl ?_
  refine ty_ldI4 ok rfl ?_
  refine ty_ci ok rfl ?_
  refine ty_add ok rfl ?_
  refine ty_scr ok rfl I.2.1.1 rfl hL (by omega) (by omega) ?_
  refine ty_ldA0 ok rfl ?_
  refine ty_ldI4 ok rfl ?_
  refine ty_ci ok rfl ?_
  refine ty_add ok rfl ?_
  refine ty_scr ok rfl I.2.1.1 rfl hL (by omega) (by omega) ?_
  refine ty_ldA0 ok rfl ?_
  refine ty_ldI4 ok rfl ?_
  refine ty_ci ok rfl ?_
  refine ty_add ok rfl ?_
  refine ty_scr ok rfl I.2.1.1 rfl hL (by omega) (by omega) ?_
  obtain ⟨x, mc, ms, ⟨m1, m2⟩, hM⟩ := la_put (E := E) (l := l) I (I.2.1.2 _) (I.2.1.2 _) (I.2.1.2 _)
  refine ty_callVg ok rfl rfl rfl rfl (by exact rfl) rfl hM (by omega) (by omega) (fun σ9 z9 => ?_)
  obtain ⟨k2, g, r2, l2, n2, rfl, ⟨hk0, hg0⟩, hM2⟩ := z9
  refine ty_ldA2 ok rfl ?_
  refine ty_ldA0 ok rfl ?_
  refine ty_ldI4 ok rfl ?_
  refine ty_ci ok rfl ?_
  refine ty_add ok rfl ?_
  refine ty_scr ok rfl hk0 hg0 hL (by omega) (by omega) ?_
  refine ty_ldA0 ok rfl ?_
  refine ty_ldI4 ok rfl ?_
  refine ty_ci ok rfl ?_
  refine ty_add ok rfl ?_
  refine ty_scr ok rfl hk0 hg0 hL (by omega) (by omega) ?_
  refine ty_ldA0 ok rfl ?_
  refine ty_ldI4 ok rfl ?_
  refine ty_ci ok rfl ?_
  refine ty_add ok rfl ?_
  refine ty_scr ok rfl hk0 hg0 hL (by omega) (by omega) ?_
  refine ty_callVg ok rfl rfl rfl rfl (by exact rfl) rfl hM2 (Nat.zero_le _) (Nat.zero_le _) (fun σ9 z9 => ?_)
  obtain ⟨k3, g3, r3, l3, n3, rfl, -, I3⟩ := z9
  refine ty_same ok rfl ?_
  exact K _ _ _ _ _ _ _ _ _ _ I3 (by omega) (by omega)
theorem lc_element {E : zE} {tb : List ExceptionTableEntry} {R : Room} {Z : zEd} {L : Nat} {k : Nat → Nat × Nat} {h : Nat → Int → Int} {r : Nat → Int → Option Nat} {l : Nat → Nat → Int64} {n : Nat} {i : Int} {bc bs : Nat} {x5 x6 x7 : Option Value} (ok : zOKr M_L_law tb R 11 P_L_law) (I : LI L k h r n) (i0 : 0 ≤ i) (iL : i + 6 ≤ L) (hL : Nat.ble L 100000 = true) (b1 : 34 ≤ bc) (b2 : 102 ≤ bs)
    (K : ∀ y5 y6 y7 k3 g3 r3 l3 n3 bc2 bs2, LI L k3 g3 r3 n3 → bc ≤ bc2 + 34 → bs ≤ bs2 + 102 → zGy E M_L_law tb R Z 1933 ([some (.ref 0), some (.ref 3), some (.ref 59), some (.ref 86), some (.int (iI i)), y5, y6, y7], [], zJ (k3, g3, r3, l3, n3), bc2, bs2)) : zGy E M_L_law tb R Z 1743 ([some (.ref 0), some (.ref 3), some (.ref 59), some (.ref 86), some (.int (iI i)), x5, x6, x7], [], zJ (k, h, r, l, n), bc, bs) := by
  refine ty_ldA1 ok rfl ?_
  refine ty_ldA0 ok rfl ?_
  refine ty_ldI4 ok rfl ?_
  refine ty_ci ok rfl ?_
  refine ty_add ok rfl ?_
  refine ty_scr ok rfl I.2.1.1 rfl hL (by omega) (by omega) ?_
  refine ty_ldA0 ok rfl ?_
  refine ty_ldI4 ok rfl ?_
  refine ty_ci ok rfl ?_
  refine ty_add ok rfl ?_
  refine ty_scr ok rfl I.2.1.1 rfl hL (by omega) (by omega) ?_
  refine ty_ldA3 ok rfl ?_
  have hn := I.1
  have z1 : zb (h 0 (i + 1)) := I.2.1.2 _
  have z2 : zb (h 0 (i + 2)) := I.2.1.2 _
  have hM := cw_element (E := E) (d := 3) (r := r) (l := l) hn I.2.2.2.1 z1 z2 (I.2.2.2.2.2.2.2.1.2.2.2 _)
  refine y_callSW (na := 4) (d' := 10) ok.2.1 ok.2.2 (by decide +kernel) zcw_L_element (by decide) ⟨by decide, by decide, by decide +kernel⟩ zsw_L_law_1757 rfl rfl hM (by omega) (by omega) (fun r9 s9 z9 => ?_)
  obtain ⟨rfl, k2, g, r2, l2, n2, rfl, ⟨n0, n1⟩, f, el⟩ := z9
  have I2 : LI L k2 g r2 n2 := LI_c I n0 (fun q hq => ⟨(f q hq).1, fun _ => (f q hq).2.1, fun _ => (f q hq).2.2⟩)
  have e : ∀ q, q < n → g q = h q := fun q hq => (f q hq).2.1
  have hk0 : k2 0 = (21, L) := I2.2.1.1
  have hg0 : g 0 = h 0 := e 0 (by omega)
  show zGy E M_L_law tb R Z 1760 ([some (.ref 0), some (.ref 3), some (.ref 59), some (.ref 86), some (.int (iI i)), x5, x6, x7], [.int (iI (sTh h (h 0 (i + 1)) (h 0 (i + 2))))], zJ (k2, g, r2, l2, n2), bc - 1, bs - 6)
  refine ty_stI5 ok rfl rfl ?_
  refine ty_ldA2 ok rfl ?_
  refine ty_ldA0 ok rfl ?_
  refine ty_ldI4 ok rfl ?_
  refine ty_ci ok rfl ?_
  refine ty_add ok rfl ?_
  refine ty_scr ok rfl hk0 hg0 hL (by omega) (by omega) ?_
  refine ty_ldA0 ok rfl ?_
  refine ty_ldI4 ok rfl ?_
  refine ty_ci ok rfl ?_
  refine ty_add ok rfl ?_
  refine ty_scr ok rfl hk0 hg0 hL (by omega) (by omega) ?_
  refine ty_callVx ok rfl rfl rfl rfl rfl rfl (zct_w8 (F := fun s => s = _) (ct_element9 (E := E) (k := k2) (h := g) (r := r2) (l := l2) (n := n2) I2.2.2.2.2.2.2.2.1 z1 z2) rfl) (fun σ9 e9 => ?_)
  subst e9
  rw [sTh_cg (e 80 (by omega)) (e 84 (by omega)), e 85 (by omega)]
  refine ty_stL6 ok rfl rfl ?_
  refine ty_ldA2 ok rfl ?_
  refine ty_callVx ok rfl rfl rfl rfl rfl rfl (zct_w8 (F := fun s => s = _) (ct_thrown (E := E)) rfl) (fun σ9 e9 => ?_)
  subst e9
  rw [show zv g 59 36 (sTh h (h 0 (i + 1)) (h 0 (i + 2))) 59 36 = sTh h (h 0 (i + 1)) (h 0 (i + 2)) from by rw [zv_a9, if_pos rfl]]
  refine ty_ldI5 ok rfl ?_
  refine ty_same ok rfl ?_
  refine ty_ldI5 ok rfl ?_
  have E9 : ∀ q, ¬ q = 59 → zv g 59 36 (sTh h (h 0 (i + 1)) (h 0 (i + 2))) q = g q := fun q hq => zv_of hq
  have E59 : ∀ j, ¬ j = 36 → zv g 59 36 (sTh h (h 0 (i + 1)) (h 0 (i + 2))) 59 j = g 59 j := fun j hj => by rw [zv_a9, if_neg hj]
  have I3 : LI L k2 (zv g 59 36 (sTh h (h 0 (i + 1)) (h 0 (i + 2)))) r2 n2 := LI_q I2 (fun q hq => E9 q (by omega)) ⟨E59 3 (by omega), E59 17 (by omega), E59 18 (by omega)⟩ (dP_fr I2.2.2.2.2.2.2.1 (by rw [E9 60 (by omega)]; exact I2.2.2.2.2.1.1.1) (E9 69 (by omega)) (E9 71 (by omega)) (E9 72 (by omega)) (E59 17 (by omega)))
  have zt : zb (sTh h (h 0 (i + 1)) (h 0 (i + 2))) := by unfold sTh; (repeat' split) <;> exact ⟨by decide, by decide⟩
  refine ty_if_eq ok rfl zt (fun c0 => ?_) (fun c0 => ?_)
  · refine ty_ldA3 ok rfl ?_
    refine ty_ci ok rfl ?_
    refine ty_lald (j := 0) ok rfl (by exact rfl) rfl (by decide) (el c0) ?_
    refine ty_ldL6 ok rfl ?_
    rw [if_pos c0]
    refine ty_samel ok rfl rfl ?_
    refine ty_goto ok rfl ?_
    exact K _ _ _ _ _ _ _ _ _ _ I3 (by omega) (by omega)
  · refine ty_goto ok rfl ?_
    exact K _ _ _ _ _ _ _ _ _ _ I3 (by omega) (by omega)
theorem lc_copy {E : zE} {tb : List ExceptionTableEntry} {R : Room} {Z : zEd} {L : Nat} {k : Nat → Nat × Nat} {h : Nat → Int → Int} {r : Nat → Int → Option Nat} {l : Nat → Nat → Int64} {n : Nat} {i : Int} {bc bs : Nat} {x5 x6 x7 : Option Value} (ok : zOKr M_L_law tb R 11 P_L_law) (I : LI L k h r n) (i0 : 0 ≤ i) (iL : i + 6 ≤ L) (hL : Nat.ble L 100000 = true) (b1 : 34 ≤ bc) (b2 : 102 ≤ bs)
    (K : ∀ y5 y6 y7 k3 g3 r3 l3 n3 bc2 bs2, LI L k3 g3 r3 n3 → bc ≤ bc2 + 34 → bs ≤ bs2 + 102 → zGy E M_L_law tb R Z 1933 ([some (.ref 0), some (.ref 3), some (.ref 59), some (.ref 86), some (.int (iI i)), y5, y6, y7], [], zJ (k3, g3, r3, l3, n3), bc2, bs2)) : zGy E M_L_law tb R Z 1810 ([some (.ref 0), some (.ref 3), some (.ref 59), some (.ref 86), some (.int (iI i)), x5, x6, x7], [], zJ (k, h, r, l, n), bc, bs) := by
  refine ty_ldA1 ok rfl ?_
  refine ty_ldA0 ok rfl ?_
  refine ty_ldI4 ok rfl ?_
  refine ty_ci ok rfl ?_
  refine ty_add ok rfl ?_
  refine ty_scr ok rfl I.2.1.1 rfl hL (by omega) (by omega) ?_
  refine ty_ldA0 ok rfl ?_
  refine ty_ldI4 ok rfl ?_
  refine ty_ci ok rfl ?_
  refine ty_add ok rfl ?_
  refine ty_scr ok rfl I.2.1.1 rfl hL (by omega) (by omega) ?_
  refine ty_ldA0 ok rfl ?_
  refine ty_ldI4 ok rfl ?_
  refine ty_ci ok rfl ?_
  refine ty_add ok rfl ?_
  refine ty_scr ok rfl I.2.1.1 rfl hL (by omega) (by omega) ?_
  refine ty_ldA0 ok rfl ?_
  refine ty_ldI4 ok rfl ?_
  refine ty_ci ok rfl ?_
  refine ty_add ok rfl ?_
  refine ty_scr ok rfl I.2.1.1 rfl hL (by omega) (by omega) ?_
  refine ty_ldA0 ok rfl ?_
  refine ty_ldI4 ok rfl ?_
  refine ty_ci ok rfl ?_
  refine ty_add ok rfl ?_
  refine ty_scr ok rfl I.2.1.1 rfl hL (by omega) (by omega) ?_
  obtain ⟨x, mc, ms, ⟨m1, m2⟩, hM⟩ := la_copy (E := E) (l := l) I (I.2.1.2 _) (I.2.1.2 _) (I.2.1.2 _) (I.2.1.2 _) (I.2.1.2 _)
  refine ty_callVg ok rfl rfl rfl rfl (by exact rfl) rfl hM (by omega) (by omega) (fun σ9 z9 => ?_)
  obtain ⟨k2, g, r2, l2, n2, rfl, ⟨hk0, hg0⟩, hM2⟩ := z9
  refine ty_ldA2 ok rfl ?_
  refine ty_ldA0 ok rfl ?_
  refine ty_ldI4 ok rfl ?_
  refine ty_ci ok rfl ?_
  refine ty_add ok rfl ?_
  refine ty_scr ok rfl hk0 hg0 hL (by omega) (by omega) ?_
  refine ty_ldA0 ok rfl ?_
  refine ty_ldI4 ok rfl ?_
  refine ty_ci ok rfl ?_
  refine ty_add ok rfl ?_
  refine ty_scr ok rfl hk0 hg0 hL (by omega) (by omega) ?_
  refine ty_ldA0 ok rfl ?_
  refine ty_ldI4 ok rfl ?_
  refine ty_ci ok rfl ?_
  refine ty_add ok rfl ?_
  refine ty_scr ok rfl hk0 hg0 hL (by omega) (by omega) ?_
  refine ty_ldA0 ok rfl ?_
  refine ty_ldI4 ok rfl ?_
  refine ty_ci ok rfl ?_
  refine ty_add ok rfl ?_
  refine ty_scr ok rfl hk0 hg0 hL (by omega) (by omega) ?_
  refine ty_ldA0 ok rfl ?_
  refine ty_ldI4 ok rfl ?_
  refine ty_ci ok rfl ?_
  refine ty_add ok rfl ?_
  refine ty_scr ok rfl hk0 hg0 hL (by omega) (by omega) ?_
  refine ty_callVg ok rfl rfl rfl rfl (by exact rfl) rfl hM2 (Nat.zero_le _) (Nat.zero_le _) (fun σ9 z9 => ?_)
  obtain ⟨k3, g3, r3, l3, n3, rfl, -, I3⟩ := z9
  refine ty_same ok rfl ?_
  exact K _ _ _ _ _ _ _ _ _ _ I3 (by omega) (by omega)
theorem lc_cost {E : zE} {tb : List ExceptionTableEntry} {R : Room} {Z : zEd} {L : Nat} {k : Nat → Nat × Nat} {h : Nat → Int → Int} {r : Nat → Int → Option Nat} {l : Nat → Nat → Int64} {n : Nat} {i : Int} {bc bs : Nat} {x5 x6 x7 : Option Value} (ok : zOKr M_L_law tb R 11 P_L_law) (I : LI L k h r n) (i0 : 0 ≤ i) (iL : i + 6 ≤ L) (hL : Nat.ble L 100000 = true) (b1 : 34 ≤ bc) (b2 : 102 ≤ bs)
    (K : ∀ y5 y6 y7 k3 g3 r3 l3 n3 bc2 bs2, LI L k3 g3 r3 n3 → bc ≤ bc2 + 34 → bs ≤ bs2 + 102 → zGy E M_L_law tb R Z 1933 ([some (.ref 0), some (.ref 3), some (.ref 59), some (.ref 86), some (.int (iI i)), y5, y6, y7], [], zJ (k3, g3, r3, l3, n3), bc2, bs2)) : zGy E M_L_law tb R Z 1883 ([some (.ref 0), some (.ref 3), some (.ref 59), some (.ref 86), some (.int (iI i)), x5, x6, x7], [], zJ (k, h, r, l, n), bc, bs) := by
  refine ty_ldA1 ok rfl ?_
  refine ty_ldA0 ok rfl ?_
  refine ty_ldI4 ok rfl ?_
  refine ty_ci ok rfl ?_
  refine ty_add ok rfl ?_
  refine ty_scr ok rfl I.2.1.1 rfl hL (by omega) (by omega) ?_
  obtain ⟨x, mc, ms, ⟨m1, m2⟩, hM⟩ := la_cost (E := E) (l := l) I (I.2.1.2 _)
  refine ty_callVg ok rfl rfl rfl rfl (by exact rfl) rfl hM (by omega) (by omega) (fun σ9 z9 => ?_)
  obtain ⟨k2, g, r2, l2, n2, rfl, ⟨hk0, hg0⟩, hM2⟩ := z9
  refine ty_ldA2 ok rfl ?_
  refine ty_ldA0 ok rfl ?_
  refine ty_ldI4 ok rfl ?_
  refine ty_ci ok rfl ?_
  refine ty_add ok rfl ?_
  refine ty_scr ok rfl hk0 hg0 hL (by omega) (by omega) ?_
  refine ty_callVg ok rfl rfl rfl rfl (by exact rfl) rfl hM2 (Nat.zero_le _) (Nat.zero_le _) (fun σ9 z9 => ?_)
  obtain ⟨k3, g3, r3, l3, n3, rfl, -, I3⟩ := z9
  refine ty_same ok rfl ?_
  exact K _ _ _ _ _ _ _ _ _ _ I3 (by omega) (by omega)
theorem lc_toss {E : zE} {tb : List ExceptionTableEntry} {R : Room} {Z : zEd} {L : Nat} {k : Nat → Nat × Nat} {h : Nat → Int → Int} {r : Nat → Int → Option Nat} {l : Nat → Nat → Int64} {n : Nat} {i : Int} {bc bs : Nat} {x5 x6 x7 : Option Value} (ok : zOKr M_L_law tb R 11 P_L_law) (I : LI L k h r n) (i0 : 0 ≤ i) (iL : i + 6 ≤ L) (hL : Nat.ble L 100000 = true) (b1 : 34 ≤ bc) (b2 : 102 ≤ bs)
    (K : ∀ y5 y6 y7 k3 g3 r3 l3 n3 bc2 bs2, LI L k3 g3 r3 n3 → bc ≤ bc2 + 34 → bs ≤ bs2 + 102 → zGy E M_L_law tb R Z 1933 ([some (.ref 0), some (.ref 3), some (.ref 59), some (.ref 86), some (.int (iI i)), y5, y6, y7], [], zJ (k3, g3, r3, l3, n3), bc2, bs2)) : zGy E M_L_law tb R Z 1908 ([some (.ref 0), some (.ref 3), some (.ref 59), some (.ref 86), some (.int (iI i)), x5, x6, x7], [], zJ (k, h, r, l, n), bc, bs) := by
  refine ty_ldA1 ok rfl ?_
  refine ty_ldA0 ok rfl ?_
  refine ty_ldI4 ok rfl ?_
  refine ty_ci ok rfl ?_
  refine ty_add ok rfl ?_
  refine ty_scr ok rfl I.2.1.1 rfl hL (by omega) (by omega) ?_
  obtain ⟨x, hM⟩ := la_toss (E := E) (l := l) I (a := h 0 (i + 1)) (I.2.1.2 _)
  refine y_callVx (d' := 10) ok.2.1 ok.2.2 (by decide +kernel) (zvt_L_law_1915 (11, M_X11_toss) (List.mem_singleton.mpr rfl)) (by exact rfl) rfl rfl hM (by omega) (by omega) (fun r9 s9 z9 => ?_)
  obtain ⟨rfl, k2, g, r2, l2, n2, rfl, ⟨hk0, hg0⟩, hM2⟩ := z9
  show zGy E M_L_law tb R Z 1918 ([some (.ref 0), some (.ref 3), some (.ref 59), some (.ref 86), some (.int (iI i)), x5, x6, x7], [.int x], zJ (k2, g, r2, l2, n2), bc - 1, bs - 6)
  refine ty_ldA2 ok rfl ?_
  refine ty_ldA0 ok rfl ?_
  refine ty_ldI4 ok rfl ?_
  refine ty_ci ok rfl ?_
  refine ty_add ok rfl ?_
  refine ty_scr ok rfl hk0 hg0 hL (by omega) (by omega) ?_
  refine ty_callVg ok rfl rfl rfl rfl (by exact rfl) rfl hM2 (Nat.zero_le _) (Nat.zero_le _) (fun σ9 z9 => ?_)
  obtain ⟨k3, g3, r3, l3, n3, rfl, -, I3⟩ := z9
  refine ty_same ok rfl ?_
  exact K _ _ _ _ _ _ _ _ _ _ I3 (by omega) (by omega)
