/-! the law's own element -/
theorem ty_last {E : zE} {M : zM} {tb : List ExceptionTableEntry} {R : Room} {Z : zEd} {P : Nat → zOp} {d pc nx bc bs : Nat} {ls : List (Option Value)} {st : List Value} {k : Nat → Nat × Nat} {h : Nat → Int → Int} {r : Nat → Int → Option Nat} {l : Nat → Nat → Int64} {n : Nat} (ok : zOKr M tb R d P) {x L j : Nat} {v : Int64} (hP : P pc = oLast nx) (hq : zkF k x = (20, L)) (hL : Nat.ble L 100000 = true) (hj : j < L) (hk : zGy E M tb R Z nx (ls, st, zJ (k, h, r, zu l x j v, n), bc, bs)) : zGy E M tb R Z pc (ls, .long v :: .int (iI (j : Int)) :: .ref x :: st, zJ (k, h, r, l, n), bc, bs) :=
  zstepy ok hP ⟨j, L, hq, Nat.le_of_ble_eq_true hL, (iI_nat j).symm, hj, hk⟩
theorem cw_element {E : zE} {d : Nat} {k : Nat → Nat × Nat} {h : Nat → Int → Int} {r : Nat → Int → Option Nat} {l : Nat → Nat → Int64} {n : Nat} (hn : 87 ≤ n) (hc : cSh k h r n) {t a : Int} (zt : zb t) (za : zb a) (zel : zb (h 85 (100 * t + a))) : zCW E (d + 7) M_L_element [(0, 9, 12, 13), (0, 9, 16, 15)] [.ref 3, .int (iI t), .int (iI a), .ref 86] (zJ (k, h, r, l, n)) 1 6 (zVx (.int (iI (sTh h t a))) (fun s => ∃ k2 h2 r2 l2 n2, s = zJ (k2, h2, r2, l2, n2) ∧ (n ≤ n2 ∧ n2 ≤ n + 1) ∧ (∀ q, q < n → k2 q = k q ∧ h2 q = h q ∧ r2 q = r q) ∧ (sTh h t a = 0 → l2 86 0 = lI (h 85 (100 * t + a))))) := by
  refine zCW_of (by decide +kernel) (Nat.le_of_ble_eq_true rfl) ?_
  have ok : zOKr M_L_element (tableOf [(0, 9, 12, 13), (0, 9, 16, 15)]) (zRm (d + 7) 1 6) (d + 7) P_L_element := ⟨oky_L_element, Nat.le_refl _, Nat.le_refl _⟩
  show zGy _ _ _ _ _ 0 ([some (.ref 3), some (.int (iI t)), some (.int (iI a)), some (.ref 86), none], [], _, 1, 6)
  refine ty_ldA3 ok rfl ?_
  refine ty_ci ok rfl ?_
  refine ty_ldA0 ok rfl ?_
  refine ty_ldI1 ok rfl ?_
  refine ty_ldI2 ok rfl ?_
  refine y_callX (d' := d + 6) (Nat.le_refl _) (Nat.le_refl _) (by decide +kernel) (zvt_L_element_5 (11, M_X11_element) (List.mem_singleton.mpr rfl)) (by exact rfl) rfl rfl (xt_element hn hc zt za zel) (Nat.le_refl _) (Nat.le_refl _) (fun r9 s9 z9 => ?_) (fun ci s9 C y1 y2 y3 => ?_)
  · obtain ⟨z1, rfl, rfl⟩ := z9
    refine ty_last (j := 0) ok rfl (by exact rfl) rfl (by decide) ?_
    refine ty_goto ok rfl ?_
    refine ty_ci ok rfl ?_
    exact y_iretq (by decide +kernel) rfl ⟨congrArg (fun z => some (Value.int (iI z))) z1.symm, _, _, _, _, _, rfl, ⟨Nat.le_refl _, Nat.le_succ _⟩, fun q _ => ⟨rfl, rfl, rfl⟩, fun _ => if_pos ⟨rfl, rfl⟩⟩
  · obtain ⟨z1, rfl⟩ := y3
    rw [zNew_J hn]
    rcases z1 with ⟨rfl, z1⟩ | ⟨rfl, z1⟩
    · cases y2
      refine ⟨12, 14, ⟨[], ⟨0, 9, 12, 13⟩, [⟨0, 9, 16, 15⟩], rfl, (fun z hz => by cases hz), rfl, by decide, zcl_SlowerForTheLateLaw_13, rfl⟩, ⟨4, Or.inr ⟨by decide +kernel, rfl⟩, by decide, rfl⟩, ?_⟩
      refine ty_ci ok rfl ?_
      exact y_iretq (by decide +kernel) rfl ⟨congrArg (fun z => some (Value.int (iI z))) z1.symm, ⟨_, _, _, _, _, rfl, ⟨by omega, by omega⟩, fun q hq9 => ⟨if_neg (by omega), funext fun j => if_neg (by omega), funext fun j => if_neg (by omega)⟩, fun y => by omega⟩⟩
    · cases y2
      refine ⟨16, 18, ⟨[⟨0, 9, 12, 13⟩], ⟨0, 9, 16, 15⟩, [], rfl, (fun z hz => by cases hz with | head => exact Or.inr ⟨by decide, "java/lang/IllegalArgumentException", by decide, by decide, zcl_SlowerForTheLateLaw_13⟩ | tail _ hz => cases hz), rfl, by decide, zcl_SlowerForTheLateLaw_15, rfl⟩, ⟨4, Or.inr ⟨by decide +kernel, rfl⟩, by decide, rfl⟩, ?_⟩
      refine ty_ci ok rfl ?_
      exact y_iretq (by decide +kernel) rfl ⟨congrArg (fun z => some (Value.int (iI z))) z1.symm, ⟨_, _, _, _, _, rfl, ⟨by omega, by omega⟩, fun q hq9 => ⟨if_neg (by omega), funext fun j => if_neg (by omega), funext fun j => if_neg (by omega)⟩, fun y => by omega⟩⟩
