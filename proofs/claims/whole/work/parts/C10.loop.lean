/-! the law: its loop -/
theorem law_loop {E : zE} {tb : List ExceptionTableEntry} {R : Room} {Z : zEd} {L : Nat} (ok : zOKr M_L_law tb R 11 P_L_law) (hL : Nat.ble L 3072 = true)
    (hend : ∀ (ls : List (Option Value)) (σ : zS) (bc bs : Nat), zGy E M_L_law tb R Z 1939 (ls, [], σ, bc, bs)) :
    ∀ (m : Nat) (i : Int) (k : Nat → Nat × Nat) (h : Nat → Int → Int) (r : Nat → Int → Option Nat) (l : Nat → Nat → Int64) (n : Nat) (bc bs : Nat) (x5 x6 x7 : Option Value), LI L k h r n → 0 ≤ i → i ≤ L + 6 → (L : Int) ≤ 6 * (m : Int) + i + 5 → 34 * m ≤ bc → 102 * m ≤ bs → zGy E M_L_law tb R Z 23 ([some (.ref 0), some (.ref 3), some (.ref 59), some (.ref 86), some (.int (iI i)), x5, x6, x7], [], zJ (k, h, r, l, n), bc, bs) := by
  have hL1 : L ≤ 3072 := Nat.le_of_ble_eq_true hL
  have hL9 : Nat.ble L 100000 = true := Nat.ble_eq_true_of_le (by omega)
  intro m
  induction m with
  | zero =>
    intro i k h r l n bc bs x5 x6 x7 I i0 i1 hm b1 b2
    refine ty_ldI4 ok rfl ?_
    refine ty_ldA0 ok rfl ?_
    refine ty_alen ok rfl (by exact I.2.1.1) ?_
    refine ty_ci ok rfl ?_
    refine ty_sub ok rfl ?_
    refine ty_c_gt ok rfl ⟨by omega, by omega⟩ ⟨by omega, by omega⟩ (fun _ => hend _ _ _ _) (fun c => ?_)
    omega
  | succ m ih =>
    intro i k h r l n bc bs x5 x6 x7 I i0 i1 hm b1 b2
    refine ty_ldI4 ok rfl ?_
    refine ty_ldA0 ok rfl ?_
    refine ty_alen ok rfl (by exact I.2.1.1) ?_
    refine ty_ci ok rfl ?_
    refine ty_sub ok rfl ?_
    refine ty_c_gt ok rfl ⟨by omega, by omega⟩ ⟨by omega, by omega⟩ (fun _ => hend _ _ _ _) (fun c => ?_)
    have iL : i + 6 ≤ L := by omega
    have K : ∀ y5 y6 y7 k3 g3 r3 l3 n3 bc2 bs2, LI L k3 g3 r3 n3 → bc ≤ bc2 + 34 → bs ≤ bs2 + 102 → zGy E M_L_law tb R Z 1933 ([some (.ref 0), some (.ref 3), some (.ref 59), some (.ref 86), some (.int (iI i)), y5, y6, y7], [], zJ (k3, g3, r3, l3, n3), bc2, bs2) := fun y5 y6 y7 k3 g3 r3 l3 n3 bc2 bs2 I3 c1 c2 => by
      refine ty_inc4 ok rfl rfl ?_
      refine ty_goto ok rfl ?_
      exact ih (i + 6) k3 g3 r3 l3 n3 bc2 bs2 y5 y6 y7 I3 (by omega) (by omega) (by omega) (by omega) (by omega)
    replace b1 : 34 ≤ bc := by omega
    replace b2 : 102 ≤ bs := by omega
    replace hL := hL9
    refine ty_ldA0 ok rfl ?_
    refine ty_ldI4 ok rfl ?_
    refine ty_scr ok rfl I.2.1.1 rfl hL i0 (by omega) ?_
    refine ty_ci ok rfl ?_
    refine ty_bin ok rfl rfl ?_
    refine ty_sw ok rfl ?_
    rw [← iI_of (iI (h 0 i) &&& iI 63)]
    refine zsw_c (zb_of _) ⟨by decide, by decide⟩ (fun _ => lc_day ok I i0 iL hL b1 b2 K) (fun _ => ?_)
    refine zsw_c (zb_of _) ⟨by decide, by decide⟩ (fun _ => lc_traveller ok I i0 iL hL b1 b2 K) (fun _ => ?_)
    refine zsw_c (zb_of _) ⟨by decide, by decide⟩ (fun _ => lc_takes ok I i0 iL hL b1 b2 K) (fun _ => ?_)
    refine zsw_c (zb_of _) ⟨by decide, by decide⟩ (fun _ => lc_refund ok I i0 iL hL b1 b2 K) (fun _ => ?_)
    refine zsw_c (zb_of _) ⟨by decide, by decide⟩ (fun _ => lc_comes ok I i0 iL hL b1 b2 K) (fun _ => ?_)
    refine zsw_c (zb_of _) ⟨by decide, by decide⟩ (fun _ => lc_leaves ok I i0 iL hL b1 b2 K) (fun _ => ?_)
    refine zsw_c (zb_of _) ⟨by decide, by decide⟩ (fun _ => lc_base ok I i0 iL hL b1 b2 K) (fun _ => ?_)
    refine zsw_c (zb_of _) ⟨by decide, by decide⟩ (fun _ => lc_train ok I i0 iL hL b1 b2 K) (fun _ => ?_)
    refine zsw_c (zb_of _) ⟨by decide, by decide⟩ (fun _ => lc_about ok I i0 iL hL b1 b2 K) (fun _ => ?_)
    refine zsw_c (zb_of _) ⟨by decide, by decide⟩ (fun _ => lc_cancels ok I i0 iL hL b1 b2 K) (fun _ => ?_)
    refine zsw_c (zb_of _) ⟨by decide, by decide⟩ (fun _ => lc_run ok I i0 iL hL b1 b2 K) (fun _ => ?_)
    refine zsw_c (zb_of _) ⟨by decide, by decide⟩ (fun _ => lc_set ok I i0 iL hL b1 b2 K) (fun _ => ?_)
    refine zsw_c (zb_of _) ⟨by decide, by decide⟩ (fun _ => lc_fate ok I i0 iL hL b1 b2 K) (fun _ => ?_)
    refine zsw_c (zb_of _) ⟨by decide, by decide⟩ (fun _ => lc_when ok I i0 iL hL b1 b2 K) (fun _ => ?_)
    refine zsw_c (zb_of _) ⟨by decide, by decide⟩ (fun _ => lc_sums ok I i0 iL hL b1 b2 K) (fun _ => ?_)
    refine zsw_c (zb_of _) ⟨by decide, by decide⟩ (fun _ => lc_aboard ok I i0 iL hL b1 b2 K) (fun _ => ?_)
    refine zsw_c (zb_of _) ⟨by decide, by decide⟩ (fun _ => lc_fullest ok I i0 iL hL b1 b2 K) (fun _ => ?_)
    refine zsw_c (zb_of _) ⟨by decide, by decide⟩ (fun _ => lc_later ok I i0 iL hL b1 b2 K) (fun _ => ?_)
    refine zsw_c (zb_of _) ⟨by decide, by decide⟩ (fun _ => lc_slack ok I i0 iL hL b1 b2 K) (fun _ => ?_)
    refine zsw_c (zb_of _) ⟨by decide, by decide⟩ (fun _ => lc_odds ok I i0 iL hL b1 b2 K) (fun _ => ?_)
    refine zsw_c (zb_of _) ⟨by decide, by decide⟩ (fun _ => lc_mean ok I i0 iL hL b1 b2 K) (fun _ => ?_)
    refine zsw_c (zb_of _) ⟨by decide, by decide⟩ (fun _ => lc_two ok I i0 iL hL b1 b2 K) (fun _ => ?_)
    refine zsw_c (zb_of _) ⟨by decide, by decide⟩ (fun _ => lc_whose ok I i0 iL hL b1 b2 K) (fun _ => ?_)
    refine zsw_c (zb_of _) ⟨by decide, by decide⟩ (fun _ => lc_together ok I i0 iL hL b1 b2 K) (fun _ => ?_)
    refine zsw_c (zb_of _) ⟨by decide, by decide⟩ (fun _ => lc_cancel ok I i0 iL hL b1 b2 K) (fun _ => ?_)
    refine zsw_c (zb_of _) ⟨by decide, by decide⟩ (fun _ => lc_strike ok I i0 iL hL b1 b2 K) (fun _ => ?_)
    refine zsw_c (zb_of _) ⟨by decide, by decide⟩ (fun _ => lc_snow ok I i0 iL hL b1 b2 K) (fun _ => ?_)
    refine zsw_c (zb_of _) ⟨by decide, by decide⟩ (fun _ => lc_law ok I i0 iL hL b1 b2 K) (fun _ => ?_)
    refine zsw_c (zb_of _) ⟨by decide, by decide⟩ (fun _ => lc_bestLate ok I i0 iL hL b1 b2 K) (fun _ => ?_)
    refine zsw_c (zb_of _) ⟨by decide, by decide⟩ (fun _ => lc_worth ok I i0 iL hL b1 b2 K) (fun _ => ?_)
    refine zsw_c (zb_of _) ⟨by decide, by decide⟩ (fun _ => lc_bestGap ok I i0 iL hL b1 b2 K) (fun _ => ?_)
    refine zsw_c (zb_of _) ⟨by decide, by decide⟩ (fun _ => lc_bestStart ok I i0 iL hL b1 b2 K) (fun _ => ?_)
    refine zsw_c (zb_of _) ⟨by decide, by decide⟩ (fun _ => lc_need ok I i0 iL hL b1 b2 K) (fun _ => ?_)
    refine zsw_c (zb_of _) ⟨by decide, by decide⟩ (fun _ => lc_extra ok I i0 iL hL b1 b2 K) (fun _ => ?_)
    refine zsw_c (zb_of _) ⟨by decide, by decide⟩ (fun _ => lc_tickets ok I i0 iL hL b1 b2 K) (fun _ => ?_)
    refine zsw_c (zb_of _) ⟨by decide, by decide⟩ (fun _ => lc_forged ok I i0 iL hL b1 b2 K) (fun _ => ?_)
    refine zsw_c (zb_of _) ⟨by decide, by decide⟩ (fun _ => lc_came ok I i0 iL hL b1 b2 K) (fun _ => ?_)
    refine zsw_c (zb_of _) ⟨by decide, by decide⟩ (fun _ => lc_sure ok I i0 iL hL b1 b2 K) (fun _ => ?_)
    refine zsw_c (zb_of _) ⟨by decide, by decide⟩ (fun _ => lc_judge ok I i0 iL hL b1 b2 K) (fun _ => ?_)
    refine zsw_c (zb_of _) ⟨by decide, by decide⟩ (fun _ => lc_mornings ok I i0 iL hL b1 b2 K) (fun _ => ?_)
    refine zsw_c (zb_of _) ⟨by decide, by decide⟩ (fun _ => lc_image ok I i0 iL hL b1 b2 K) (fun _ => ?_)
    refine zsw_c (zb_of _) ⟨by decide, by decide⟩ (fun _ => lc_restore ok I i0 iL hL b1 b2 K) (fun _ => ?_)
    refine zsw_c (zb_of _) ⟨by decide, by decide⟩ (fun _ => lc_count ok I i0 iL hL b1 b2 K) (fun _ => ?_)
    refine zsw_c (zb_of _) ⟨by decide, by decide⟩ (fun _ => lc_keep ok I i0 iL hL b1 b2 K) (fun _ => ?_)
    refine zsw_c (zb_of _) ⟨by decide, by decide⟩ (fun _ => lc_row ok I i0 iL hL b1 b2 K) (fun _ => ?_)
    refine zsw_c (zb_of _) ⟨by decide, by decide⟩ (fun _ => lc_put ok I i0 iL hL b1 b2 K) (fun _ => ?_)
    refine zsw_c (zb_of _) ⟨by decide, by decide⟩ (fun _ => lc_element ok I i0 iL hL b1 b2 K) (fun _ => ?_)
    refine zsw_c (zb_of _) ⟨by decide, by decide⟩ (fun _ => lc_copy ok I i0 iL hL b1 b2 K) (fun _ => ?_)
    refine zsw_c (zb_of _) ⟨by decide, by decide⟩ (fun _ => lc_cost ok I i0 iL hL b1 b2 K) (fun _ => ?_)
    refine zsw_c (zb_of _) ⟨by decide, by decide⟩ (fun _ => lc_toss ok I i0 iL hL b1 b2 K) (fun _ => ?_)
    exact K _ _ _ _ _ _ _ _ _ _ I (by omega) (by omega)
