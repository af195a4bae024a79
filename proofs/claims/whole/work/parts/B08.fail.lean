/-! fail, caught, toss, element -/
theorem zNew_J {k : Nat → Nat × Nat} {h : Nat → Int → Int} {r : Nat → Int → Option Nat} {l : Nat → Nat → Int64} {n : Nat} (hn : 87 ≤ n) (ci N : Nat) : zNew (zJ (k, h, r, l, n)) (ci, N) = zJ (kN' k n (ci, N), hN' h n 0, hN' r n none, hN' l n 0, n + 1) := by
  show ((fun a => if a = n then (ci, N) else zkF k a), (fun (a j : Nat) => if a = n then (0 : Int32) else iI (h a (j : Int))), (fun (a j : Nat) => if a = n then none else zrF r a j), (fun (a j : Nat) => if a = n then (0 : Int64) else l a j), n + 1) = (zkF (kN' k n (ci, N)), (fun (a j : Nat) => iI (hN' h n 0 a (j : Int))), zrF (hN' r n none), hN' l n 0, n + 1)
  have e1 : (fun a => if a = n then (ci, N) else zkF k a) = zkF (kN' k n (ci, N)) := funext fun a => (zkF_N hn a).symm
  have e2 : (fun (a : Nat) (j : Nat) => if a = n then (0 : Int32) else iI (h a (j : Int))) = fun (a j : Nat) => iI (hN' h n 0 a (j : Int)) := by
    funext a j
    unfold hN'
    by_cases e : a = n
    · rw [if_pos e, if_pos e]; exact iI_0
    · rw [if_neg e, if_neg e]
  have e3 : (fun (a : Nat) (j : Nat) => if a = n then none else zrF r a j) = zrF (hN' r n none) := by
    funext a j
    exact (zrF_N hn a j).symm
  rw [e1, e2, e3]
  rfl
theorem xt_X10_fail {E : zE} {d : Nat} {k : Nat → Nat × Nat} {h : Nat → Int → Int} {r : Nat → Int → Option Nat} {l : Nat → Nat → Int64} {n : Nat} {v c : Nat} (hq : zkF k v = (c, 2)) (hm : zmem c [0, 1, 2, 5, 6, 7, 8, 10] = true) {F : Int} (hF : h v 1 = F) (f0 : 0 ≤ F) (f1 : F ≤ 9) : zXT E (d + 6) M_X10_fail [.ref v] (zJ (k, h, r, l, n)) 1 6 (fun r9 s => F = 0 ∧ r9 = none ∧ s = zJ (k, h, r, l, n)) (fun ci s => ¬ F = 0 ∧ ci = 14 ∧ s = zNew (zJ (k, h, r, l, n)) (ci, 0)) := by
  refine zXT_of (by decide +kernel) (Nat.le_of_ble_eq_true rfl) ?_
  have ok : zOKr M_X10_fail [] (zRm (d + 6) 1 6) (d + 6) P_X10_fail := ⟨oky_X10_fail, Nat.le_refl _, Nat.le_refl _⟩
  show zGy _ _ _ _ _ 0 ([some (.ref v)], [], _, 1, 6)
  refine ty_ldA0 ok rfl ?_
  refine ty_getJ 1 ok rfl hq hm rfl ?_
  rw [hF]
  refine ty_if_le ok rfl ⟨by omega, by omega⟩ (fun c4 => ?_) (fun c4 => ?_)
  · exact y_vretx (by decide +kernel) rfl ⟨by omega, rfl, rfl⟩
  · exact y_throw (pc := 7) (ik := 40) (is := 42) (ic := 44) (ci := 14) (C := "java/lang/IllegalStateException") (text := "one has failed") (by decide) rfl (by decide +kernel) (by decide +kernel) (by decide +kernel) (by decide +kernel) (by decide +kernel) (by decide +kernel) zcl_SlowerForTheLate_Walker_40 zin_IllegalStateException (by decide) zat_X10 zab_X10 (by decide +kernel) (by omega) (Nat.zero_le _) (Nat.le_refl _) (Nat.le_refl _) ⟨by omega, rfl, rfl⟩
theorem xt_X8_fail {E : zE} {d : Nat} {k : Nat → Nat × Nat} {h : Nat → Int → Int} {r : Nat → Int → Option Nat} {l : Nat → Nat → Int64} {n : Nat} {v c : Nat} (hq : zkF k v = (c, 2)) (hm : zmem c [0, 1, 2, 5, 6, 7, 8, 10] = true) {F : Int} (hF : h v 1 = F) (f0 : 0 ≤ F) (f1 : F ≤ 9) : zXT E (d + 6) M_X8_fail [.ref v] (zJ (k, h, r, l, n)) 1 6 (fun r9 s => F = 0 ∧ r9 = none ∧ s = zJ (k, h, r, l, n)) (fun ci s => ¬ F = 0 ∧ ci = 13 ∧ s = zNew (zJ (k, h, r, l, n)) (ci, 0)) := by
  refine zXT_of (by decide +kernel) (Nat.le_of_ble_eq_true rfl) ?_
  have ok : zOKr M_X8_fail [] (zRm (d + 6) 1 6) (d + 6) P_X8_fail := ⟨oky_X8_fail, Nat.le_refl _, Nat.le_refl _⟩
  show zGy _ _ _ _ _ 0 ([some (.ref v)], [], _, 1, 6)
  refine ty_ldA0 ok rfl ?_
  refine ty_getJ 1 ok rfl hq hm rfl ?_
  rw [hF]
  refine ty_if_le ok rfl ⟨by omega, by omega⟩ (fun c4 => ?_) (fun c4 => ?_)
  · exact y_vretx (by decide +kernel) rfl ⟨by omega, rfl, rfl⟩
  · exact y_throw (pc := 7) (ik := 34) (is := 36) (ic := 38) (ci := 13) (C := "java/lang/IllegalArgumentException") (text := "a tardy one has failed") (by decide) rfl (by decide +kernel) (by decide +kernel) (by decide +kernel) (by decide +kernel) (by decide +kernel) (by decide +kernel) zcl_SlowerForTheLate_Tardy_34 zin_IllegalArgumentException (by decide) zat_X8 zab_X8 (by decide +kernel) (by omega) (Nat.zero_le _) (Nat.le_refl _) (Nat.le_refl _) ⟨by omega, rfl, rfl⟩
theorem xt_X0_fail {E : zE} {d : Nat} {k : Nat → Nat × Nat} {h : Nat → Int → Int} {r : Nat → Int → Option Nat} {l : Nat → Nat → Int64} {n : Nat} {v c : Nat} (hq : zkF k v = (c, 2)) (hm : zmem c [0, 1, 2, 5, 6, 7, 8, 10] = true) {F : Int} (hF : h v 1 = F) (f0 : 0 ≤ F) (f1 : F ≤ 9) : zXT E (d + 6) M_X0_fail [.ref v] (zJ (k, h, r, l, n)) 1 6 (fun r9 s => F = 0 ∧ r9 = none ∧ s = zJ (k, h, r, l, n)) (fun ci s => ¬ F = 0 ∧ ci = 15 ∧ s = zNew (zJ (k, h, r, l, n)) (ci, 0)) := by
  refine zXT_of (by decide +kernel) (Nat.le_of_ble_eq_true rfl) ?_
  have ok : zOKr M_X0_fail [] (zRm (d + 6) 1 6) (d + 6) P_X0_fail := ⟨oky_X0_fail, Nat.le_refl _, Nat.le_refl _⟩
  show zGy _ _ _ _ _ 0 ([some (.ref v)], [], _, 1, 6)
  refine ty_ldA0 ok rfl ?_
  refine ty_getJ 1 ok rfl hq hm rfl ?_
  rw [hF]
  refine ty_if_le ok rfl ⟨by omega, by omega⟩ (fun c4 => ?_) (fun c4 => ?_)
  · exact y_vretx (by decide +kernel) rfl ⟨by omega, rfl, rfl⟩
  · exact y_throw (pc := 7) (ik := 26) (is := 28) (ic := 30) (ci := 15) (C := "java/lang/UnsupportedOperationException") (text := "one who aimed has failed") (by decide) rfl (by decide +kernel) (by decide +kernel) (by decide +kernel) (by decide +kernel) (by decide +kernel) (by decide +kernel) zcl_SlowerForTheLate_Aimer_26 zin_UnsupportedOperationException (by decide) zat_X0 zab_X0 (by decide +kernel) (by omega) (Nat.zero_le _) (Nat.le_refl _) (Nat.le_refl _) ⟨by omega, rfl, rfl⟩
theorem xt_X7_fail {E : zE} {d : Nat} {k : Nat → Nat × Nat} {h : Nat → Int → Int} {r : Nat → Int → Option Nat} {l : Nat → Nat → Int64} {n : Nat} {v : Nat} : zXT E (d + 6) M_X7_fail [.ref v] (zJ (k, h, r, l, n)) 1 6 (fun r9 s => r9 = none ∧ s = zJ (k, h, r, l, n)) (fun _ _ => False) := by
  refine zXT_of (by decide +kernel) (Nat.le_of_ble_eq_true rfl) ?_
  show zGy _ _ _ _ _ 0 ([some (.ref v)], [], _, 1, 6)
  exact y_vretx (by decide +kernel) rfl ⟨rfl, rfl⟩
/-- which exception: by the kind -/
def kXc (K : Int) : Nat := if K = 6 then 15 else if K = 2 ∨ K = 3 then 13 else 14
theorem zxt_w {E : zE} {d : Nat} {M : zM} {vs : List Value} {σ : zS} {mc ms : Nat} {Q Q2 : zQ} {X X2 : Nat → zS → Prop} (h : zXT E d M vs σ mc ms Q X) (a : ∀ r s, Q r s → Q2 r s) (b : ∀ c s, X c s → X2 c s) : zXT E d M vs σ mc ms Q2 X2 := by
  have e1 : ∀ a9 s o t, zQc E Q a9 s o t → zQc E Q2 a9 s o t := fun a9 s o t ⟨r, s9, z1, z2, z3⟩ => ⟨r, s9, z1, a _ _ z2, z3⟩
  have e2 : ∀ C s t, zXC E X C s t → zXC E X2 C s t := fun C s t ⟨ci, s9, z1, z2, z3, z4⟩ => ⟨ci, s9, z1, z2, b _ _ z3, z4⟩
  intro p e A1 A2 A3 s m args below A4 A5 A6 A7
  obtain ⟨n9, o9, z1, z2, z3, z4⟩ := h p e A1 A2 A3 s m args below A4 A5 A6 A7
  refine ⟨n9, o9, z1, z2, z3, ?_⟩
  rcases z4 with ⟨y1, y2⟩ | ⟨q, y1, C, ce, L, y3, y4⟩
  · exact Or.inl ⟨e1 _ _ _ _ y1, y2⟩
  · exact Or.inr ⟨q, y1, C, ce, L, e2 _ _ _ y3, y4⟩
theorem vt_fail {E : zE} {d : Nat} {k : Nat → Nat × Nat} {h : Nat → Int → Int} {r : Nat → Int → Option Nat} {l : Nat → Nat → Int64} {n : Nat} {v : Nat} {K F : Int} (w : wk k h v K F) : ∃ (c : Nat) (M9 : zM), zkF k v = (c, 2) ∧ (c, M9) ∈ ([(10, M_X10_fail), (0, M_X0_fail), (1, M_X8_fail), (2, M_X10_fail), (5, M_X10_fail), (6, M_X10_fail), (7, M_X7_fail), (8, M_X8_fail)] : List (Nat × zM)) ∧ zXT E (d + 6) M9 [.ref v] (zJ (k, h, r, l, n)) 1 6 (fun r9 s => (K = 4 ∨ F = 0) ∧ r9 = none ∧ s = zJ (k, h, r, l, n)) (fun ci s => ¬ (K = 4 ∨ F = 0) ∧ ci = kXc K ∧ s = zNew (zJ (k, h, r, l, n)) (ci, 0)) := by
  obtain ⟨hq, ⟨hK, hF⟩, ⟨k0, k1⟩, f0, f1⟩ := w
  rcases (by omega : K = 0 ∨ K = 1 ∨ K = 2 ∨ K = 3 ∨ K = 4 ∨ K = 5 ∨ K = 6 ∨ K = 7) with e | e | e | e | e | e | e | e
  · subst e
    exact ⟨10, M_X10_fail, hq, by simp, zxt_w (xt_X10_fail hq rfl hF f0 f1) (fun _ _ z => ⟨Or.inr z.1, z.2⟩) (fun _ _ z => ⟨fun y => y.elim (fun y => by omega) z.1, z.2.1.trans rfl, z.2.2⟩)⟩
  · subst e
    exact ⟨5, M_X10_fail, hq, by simp, zxt_w (xt_X10_fail hq rfl hF f0 f1) (fun _ _ z => ⟨Or.inr z.1, z.2⟩) (fun _ _ z => ⟨fun y => y.elim (fun y => by omega) z.1, z.2.1.trans rfl, z.2.2⟩)⟩
  · subst e
    exact ⟨8, M_X8_fail, hq, by simp, zxt_w (xt_X8_fail hq rfl hF f0 f1) (fun _ _ z => ⟨Or.inr z.1, z.2⟩) (fun _ _ z => ⟨fun y => y.elim (fun y => by omega) z.1, z.2.1.trans rfl, z.2.2⟩)⟩
  · subst e
    exact ⟨1, M_X8_fail, hq, by simp, zxt_w (xt_X8_fail hq rfl hF f0 f1) (fun _ _ z => ⟨Or.inr z.1, z.2⟩) (fun _ _ z => ⟨fun y => y.elim (fun y => by omega) z.1, z.2.1.trans rfl, z.2.2⟩)⟩
  · subst e
    exact ⟨7, M_X7_fail, hq, by simp, zxt_w xt_X7_fail (fun _ _ z => ⟨Or.inl rfl, z⟩) (fun _ _ z => z.elim)⟩
  · subst e
    exact ⟨6, M_X10_fail, hq, by simp, zxt_w (xt_X10_fail hq rfl hF f0 f1) (fun _ _ z => ⟨Or.inr z.1, z.2⟩) (fun _ _ z => ⟨fun y => y.elim (fun y => by omega) z.1, z.2.1.trans rfl, z.2.2⟩)⟩
  · subst e
    exact ⟨0, M_X0_fail, hq, by simp, zxt_w (xt_X0_fail hq rfl hF f0 f1) (fun _ _ z => ⟨Or.inr z.1, z.2⟩) (fun _ _ z => ⟨fun y => y.elim (fun y => by omega) z.1, z.2.1.trans rfl, z.2.2⟩)⟩
  · subst e
    exact ⟨2, M_X10_fail, hq, by simp, zxt_w (xt_X10_fail hq rfl hF f0 f1) (fun _ _ z => ⟨Or.inr z.1, z.2⟩) (fun _ _ z => ⟨fun y => y.elim (fun y => by omega) z.1, z.2.1.trans rfl, z.2.2⟩)⟩
theorem cw_caught {E : zE} {d : Nat} {k : Nat → Nat × Nat} {h : Nat → Int → Int} {r : Nat → Int → Option Nat} {l : Nat → Nat → Int64} {n : Nat} (hn : 87 ≤ n) {v : Nat} {K F : Int} (w : wk k h v K F) (vn : v < n) : zCW E (d + 7) M_X11_caught [(0, 4, 7, 368), (0, 4, 17, 327), (0, 4, 26, 334)] [.ref v] (zJ (k, h, r, l, n)) 1 6 (zVx (.int (iI (kTo K F))) (fun s => ∃ k2 h2 r2 l2 n2, s = zJ (k2, h2, r2, l2, n2) ∧ (n ≤ n2 ∧ n2 ≤ n + 1) ∧ ∀ q, q < n → k2 q = k q ∧ h2 q = h q ∧ l2 q = l q ∧ r2 q = r q)) := by
  refine zCW_of (by decide +kernel) (Nat.le_of_ble_eq_true rfl) ?_
  have ok : zOKr M_X11_caught (tableOf [(0, 4, 7, 368), (0, 4, 17, 327), (0, 4, 26, 334)]) (zRm (d + 7) 1 6) (d + 7) P_X11_caught := ⟨oky_X11_caught, Nat.le_refl _, Nat.le_refl _⟩
  show zGy _ _ _ _ _ 0 ([some (.ref v), none], [], _, 1, 6)
  obtain ⟨c, M9, hq, hmem, hM⟩ := vt_fail (E := E) (d := d) (r := r) (l := l) (n := n) w
  refine ty_ldA0 ok rfl ?_
  refine y_callX (d' := d + 6) (Nat.le_refl _) (Nat.le_refl _) (by decide +kernel) (zvt_X11_caught_1 _ hmem) hq rfl rfl hM (Nat.le_refl _) (Nat.le_refl _) (fun r9 s9 z9 => ?_) (fun ci s9 C y1 y2 y3 => ?_)
  · obtain ⟨z1, rfl, rfl⟩ := z9
    show zGy _ _ _ _ _ 4 ([some (.ref v), none], [], _, 0, 0)
    refine ty_goto ok rfl ?_
    refine ty_ci ok rfl ?_
    exact y_iretq (by decide +kernel) rfl ⟨congrArg (fun z => some (Value.int (iI z))) (if_pos z1).symm, k, h, r, l, n, rfl, ⟨Nat.le_refl _, Nat.le_succ _⟩, fun q _ => ⟨rfl, rfl, rfl, rfl⟩⟩
  · obtain ⟨z1, rfl, rfl⟩ := y3
    rw [zNew_J hn]
    have w2 : wk (kN' k n (kXc K, 0)) (hN' h n 0) v K F := wk_up w (if_neg (by omega)) (funext fun j => if_neg (by omega))
    have f1 : hN' h n 0 v 1 = F := w2.2.1.2
    obtain ⟨-, -, ⟨k0, k1⟩, g0, g1⟩ := w
    have eT : kTo K F = if K = 6 then 200 + kCo K F else if K = 2 ∨ K = 3 then 100 + F else F := if_neg z1
    by_cases e6 : K = 6
    · have ec : kXc K = 15 := if_pos e6
      rw [ec] at y2 w2 ⊢
      cases y2
      refine ⟨7, 8, ⟨[], ⟨0, 4, 7, 368⟩, [⟨0, 4, 17, 327⟩, ⟨0, 4, 26, 334⟩], rfl, (fun z hz => by cases hz), rfl, by decide, zcl_SlowerForTheLate_368, rfl⟩, ⟨1, Or.inl ⟨1, rfl, by decide +kernel, rfl⟩, by decide, rfl⟩, ?_⟩
      refine ty_ci ok rfl ?_
      refine ty_ldA0 ok rfl ?_
      obtain ⟨c9, M8, q1, q2, q3⟩ := vt_price (E := E) (d := d + 1) (r := hN' r n none) (l := hN' l n 0) (n := n + 1) w2
      refine ty_callV ok rfl rfl rfl rfl q1 q2 q3 ?_
      refine ty_add ok rfl ?_
      exact y_iretq (by decide +kernel) rfl ⟨congrArg (fun z => some (Value.int (iI z))) (by rw [eT, if_pos e6]), ⟨_, _, _, _, _, rfl, ⟨by omega, by omega⟩, fun q hq9 => ⟨if_neg (by omega), funext fun j => if_neg (by omega), funext fun j => if_neg (by omega), funext fun j => if_neg (by omega)⟩⟩⟩
    · by_cases e2 : K = 2 ∨ K = 3
      · have ec : kXc K = 13 := (if_neg e6).trans (if_pos e2)
        rw [ec] at y2 w2 ⊢
        cases y2
        refine ⟨17, 18, ⟨[⟨0, 4, 7, 368⟩], ⟨0, 4, 17, 327⟩, [⟨0, 4, 26, 334⟩], rfl, (fun z hz => by cases hz with | head => exact Or.inr ⟨by decide, "java/lang/UnsupportedOperationException", by decide, by decide, zcl_SlowerForTheLate_368⟩ | tail _ hz => cases hz), rfl, by decide, zcl_SlowerForTheLate_327, rfl⟩, ⟨1, Or.inl ⟨1, rfl, by decide +kernel, rfl⟩, by decide, rfl⟩, ?_⟩
        refine ty_ci ok rfl ?_
        refine ty_ldA0 ok rfl ?_
        refine ty_getJ 1 ok rfl w2.1 (wk_c w2).1 rfl ?_
        rw [f1]
        refine ty_add ok rfl ?_
        exact y_iretq (by decide +kernel) rfl ⟨congrArg (fun z => some (Value.int (iI z))) (by rw [eT, if_neg e6, if_pos e2]), ⟨_, _, _, _, _, rfl, ⟨by omega, by omega⟩, fun q hq9 => ⟨if_neg (by omega), funext fun j => if_neg (by omega), funext fun j => if_neg (by omega), funext fun j => if_neg (by omega)⟩⟩⟩
      · have ec : kXc K = 14 := (if_neg e6).trans (if_neg e2)
        rw [ec] at y2 w2 ⊢
        cases y2
        refine ⟨26, 27, ⟨[⟨0, 4, 7, 368⟩, ⟨0, 4, 17, 327⟩], ⟨0, 4, 26, 334⟩, [], rfl, (fun z hz => by cases hz with | head => exact Or.inr ⟨by decide, "java/lang/UnsupportedOperationException", by decide, by decide, zcl_SlowerForTheLate_368⟩ | tail _ hz => cases hz with | head => exact Or.inr ⟨by decide, "java/lang/IllegalArgumentException", by decide, by decide, zcl_SlowerForTheLate_327⟩ | tail _ hz => cases hz), rfl, by decide, zcl_SlowerForTheLate_334, rfl⟩, ⟨1, Or.inl ⟨1, rfl, by decide +kernel, rfl⟩, by decide, rfl⟩, ?_⟩
        refine ty_ldA0 ok rfl ?_
        refine ty_getJ 1 ok rfl w2.1 (wk_c w2).1 rfl ?_
        rw [f1]
        exact y_iretq (by decide +kernel) rfl ⟨congrArg (fun z => some (Value.int (iI z))) (by rw [eT, if_neg e6, if_neg e2]), ⟨_, _, _, _, _, rfl, ⟨by omega, by omega⟩, fun q hq9 => ⟨if_neg (by omega), funext fun j => if_neg (by omega), funext fun j => if_neg (by omega), funext fun j => if_neg (by omega)⟩⟩⟩
theorem cx_toss11 {E : zE} {d : Nat} {k : Nat → Nat × Nat} {h : Nat → Int → Int} {r : Nat → Int → Option Nat} {l : Nat → Nat → Int64} {n : Nat} (hn : 87 ≤ n) (hc : cSh k h r n) {t : Int} (zt : zb t) : zCX E (d + 8) M_X11_toss [.ref 3, .int (iI t)] (zJ (k, h, r, l, n)) 1 6 (zVx (.int (iI (if sWK h t = 0 then kTo (h 81 t) (h 82 t) else sWK h t))) (fun s => ∃ k2 h2 r2 l2 n2, s = zJ (k2, h2, r2, l2, n2) ∧ (n ≤ n2 ∧ n2 ≤ n + 1) ∧ ∀ q, q < n → k2 q = k q ∧ h2 q = h q ∧ l2 q = l q ∧ r2 q = r q)) := by
  refine zCX_of (by decide +kernel) (Nat.le_of_ble_eq_true rfl) (fun tb => ?_)
  have ok : zOKr M_X11_toss tb (zRm (d + 8) 1 6) (d + 8) P_X11_toss := ⟨oky_X11_toss, Nat.le_refl _, Nat.le_refl _⟩
  show zGy _ _ _ _ _ 0 ([some (.ref 3), some (.int (iI t)), none], [], _, 1, 6)
  refine ty_ldA0 ok rfl ?_
  refine ty_ldI1 ok rfl ?_
  refine ty_callV ok rfl rfl rfl rfl rfl rfl (ct_rOne hc zt) ?_
  refine ty_stI2 ok rfl rfl ?_
  refine ty_ldI2 ok rfl ?_
  refine ty_if_eq ok rfl sWK_z (fun c7 => ?_) (fun c7 => ?_)
  · obtain ⟨⟨t0, t1⟩, h80, ⟨v, r5, wv, v0, v1⟩, -⟩ := cSh_k hc c7
    refine ty_ldA0 ok rfl ?_
    refine ty_getF ok rfl rfl rfl rfl ?_
    refine ty_ldI1 ok rfl ?_
    refine ty_aald ok rfl (by exact rfl) (by exact rfl) (by exact rfl) (by omega) (by omega) r5 ?_
    refine y_callSW (na := 1) (d' := d + 7) (Nat.le_refl _) (Nat.le_refl _) (by decide +kernel) zcw_X11_caught (by decide) ⟨by decide, by decide, by decide +kernel⟩ zsw_X11_toss_20 rfl rfl (cw_caught hn wv v1) (Nat.le_refl _) (Nat.le_refl _) (fun r9 s9 z9 => ?_)
    obtain ⟨rfl, k2, h2, r2, l2, n2, rfl, z1, z2⟩ := z9
    exact y_iretq (by decide +kernel) rfl ⟨congrArg (fun z => some (Value.int (iI z))) (if_pos c7).symm, k2, h2, r2, l2, n2, rfl, z1, z2⟩
  · refine ty_ldI2 ok rfl ?_
    refine ty_goto ok rfl ?_
    exact y_iretq (by decide +kernel) rfl ⟨congrArg (fun z => some (Value.int (iI z))) (if_neg c7).symm, k, h, r, l, n, rfl, ⟨Nat.le_refl _, Nat.le_succ _⟩, fun q _ => ⟨rfl, rfl, rfl, rfl⟩⟩
theorem sTh_row {k : Nat → Nat × Nat} {h : Nat → Int → Int} {r : Nat → Int → Option Nat} {n : Nat} (hc : cSh k h r n) {t a : Int} (t8 : 0 ≤ t ∧ t < 8) : (r 56 t = none → sTh h t a = 2) ∧ (∀ w, r 56 t = some w → rw_ k h r w (w + 1) (h 84 t).toNat (h 83 t) ∧ ((h 84 t).toNat : Int) = h 84 t ∧ (0 ≤ a ∧ a < h 84 t → sTh h t a = 0 ∧ h (w + 1) a = h 85 (100 * t + a)) ∧ (¬ (0 ≤ a ∧ a < h 84 t) → sTh h t a = 2)) := by
  have n8 : ¬ ¬ (0 ≤ t ∧ t < 8) := fun q => q t8
  unfold sTh
  rw [if_neg n8]
  rcases hc.1 t t8.1 t8.2 with ⟨z1, z2, z3⟩ | ⟨z1, ⟨v, z2, -⟩, z3⟩ | ⟨z1, z2, w, z3, z4, z5, z6, z7, z8, z9⟩
  · exact ⟨fun _ => if_neg (by omega), fun w e => (znn z3 e).elim⟩
  · exact ⟨fun _ => if_neg (by omega), fun w e => (znn z3 e).elim⟩
  · refine ⟨fun e => (znn e z3).elim, fun w9 e => ?_⟩
    rw [z3] at e
    cases e
    exact ⟨z4, by omega, fun q => ⟨if_pos ⟨z1, q⟩, z8 a q.1 q.2⟩, fun q => if_neg (fun y => q y.2)⟩
theorem xt_element {E : zE} {d : Nat} {k : Nat → Nat × Nat} {h : Nat → Int → Int} {r : Nat → Int → Option Nat} {l : Nat → Nat → Int64} {n : Nat} (hn : 87 ≤ n) (hc : cSh k h r n) {t a : Int} (zt : zb t) (za : zb a) (zel : zb (h 85 (100 * t + a))) : zXT E (d + 6) M_X11_element [.ref 3, .int (iI t), .int (iI a)] (zJ (k, h, r, l, n)) 1 6 (fun r9 s => sTh h t a = 0 ∧ r9 = some (.long (lI (h 85 (100 * t + a)))) ∧ s = zJ (k, h, r, l, n)) (fun ci s => (ci = 13 ∧ sTh h t a = 1 ∨ ci = 14 ∧ sTh h t a = 2) ∧ s = zNew (zJ (k, h, r, l, n)) (ci, 0)) := by
  refine zXT_of (by decide +kernel) (Nat.le_of_ble_eq_true rfl) ?_
  have ok : zOKr M_X11_element [] (zRm (d + 6) 1 6) (d + 6) P_X11_element := ⟨oky_X11_element, Nat.le_refl _, Nat.le_refl _⟩
  show zGy _ _ _ _ _ 0 ([some (.ref 3), some (.int (iI t)), some (.int (iI a))], [], _, 1, 6)
  refine ty_ldI1 ok rfl ?_
  refine ty_callS ok rfl rfl rfl rfl (ct_isShelf11 zt) ?_
  refine ty_if_eq ok rfl zif01 (fun c4 => ?_) (fun c4 => ?_)
  · exact y_throww (pc := 7) (ik := 327) (is := 329) (ic := 331) (ci := 13) (C := "java/lang/IllegalArgumentException") (text := "there is no such shelf") (by decide) rfl (by decide +kernel) (by decide +kernel) (by decide +kernel) (by decide +kernel) (by decide +kernel) (by decide +kernel) zcl_SlowerForTheLate_327 zin_IllegalArgumentException (by decide) zat_X11a zab_X11a (by decide +kernel) (by omega) (Nat.zero_le _) (Nat.le_refl _) (Nat.le_refl _) ⟨Or.inl ⟨rfl, if_pos (zif_f c4)⟩, rfl⟩
  · have t8 := zif_t c4
    obtain ⟨t0, t1⟩ := t8
    obtain ⟨hno, hyes⟩ := sTh_row (a := a) hc ⟨t0, t1⟩
    refine ty_ldA0 ok rfl ?_
    refine ty_getF ok rfl rfl rfl rfl ?_
    refine ty_ldI1 ok rfl ?_
    rcases zopt (r 56 t) with e6 | ⟨w, e6⟩
    · refine ty_aaldN ok rfl (by exact rfl) (by exact rfl) (by exact rfl) (by omega) (by omega) e6 ?_
      refine ty_nullN ok rfl ?_
      exact y_throww (pc := 27) (ik := 334) (is := 336) (ic := 338) (ci := 14) (C := "java/lang/IllegalStateException") (text := "there is no row on this shelf") (by decide) rfl (by decide +kernel) (by decide +kernel) (by decide +kernel) (by decide +kernel) (by decide +kernel) (by decide +kernel) zcl_SlowerForTheLate_334 zin_IllegalStateException (by decide) zat_X11s zab_X11s (by decide +kernel) (by omega) (Nat.zero_le _) (Nat.le_refl _) (Nat.le_refl _) ⟨Or.inr ⟨rfl, hno e6⟩, rfl⟩
    · obtain ⟨hw, eL, y0, y2⟩ := hyes w e6
      refine ty_aald ok rfl (by exact rfl) (by exact rfl) (by exact rfl) (by omega) (by omega) e6 ?_
      refine ty_nullR ok rfl ?_
      refine ty_ldA0 ok rfl ?_
      refine ty_getF ok rfl rfl rfl rfl ?_
      refine ty_ldI1 ok rfl ?_
      refine ty_aald ok rfl (by exact rfl) (by exact rfl) (by exact rfl) (by omega) (by omega) e6 ?_
      refine ty_ldI2 ok rfl ?_
      refine ty_callV ok rfl rfl rfl rfl hw.1 rfl (ct_rhas hw za) ?_
      refine ty_if_eq ok rfl zif01 (fun c48 => ?_) (fun c48 => ?_)
      · exact y_throww (pc := 51) (ik := 334) (is := 339) (ic := 338) (ci := 14) (C := "java/lang/IllegalStateException") (text := "there is no such place in this row") (by decide) rfl (by decide +kernel) (by decide +kernel) (by decide +kernel) (by decide +kernel) (by decide +kernel) (by decide +kernel) zcl_SlowerForTheLate_334 zin_IllegalStateException (by decide) zat_X11s zab_X11s (by decide +kernel) (by omega) (Nat.zero_le _) (Nat.le_refl _) (Nat.le_refl _) ⟨Or.inr ⟨rfl, y2 (fun q => zif_f c48 (by omega))⟩, rfl⟩
      · have g9 := zif_t c48
        obtain ⟨y3, y4⟩ := y0 (by omega)
        refine ty_ldA0 ok rfl ?_
        refine ty_getF ok rfl rfl rfl rfl ?_
        refine ty_ldI1 ok rfl ?_
        refine ty_aald ok rfl (by exact rfl) (by exact rfl) (by exact rfl) (by omega) (by omega) e6 ?_
        refine ty_ldI2 ok rfl ?_
        refine ty_callV ok rfl rfl rfl rfl hw.1 rfl (ct_rat hw za) ?_
        rw [tc_in g9.1 g9.2, y4]
        refine ty_i2l ok rfl ?_
        exact y_lretx (by decide +kernel) rfl ⟨y3, by rw [iI_l zel], rfl⟩
