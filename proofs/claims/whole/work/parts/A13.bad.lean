/-! the class: day -/
/-- a plan's picture, carried over -/
theorem cR_gen {P a1 a2 a3 a4 a5 a6 a7 a8 a9 : Nat} {k k' : Nat → Nat × Nat} {h g : Nat → Int → Int} {r r' : Nat → Int → Option Nat} {n n' : Nat} {p : Int → Int} {w : Int} (c : cR P a1 a2 a3 a4 a5 a6 a7 a8 a9 k h r n p w) (w8 : cnP p w ≤ 8) (e : g P = h P) (e2 : g a2 = h a2) (e3 : g a3 = h a3) (e4 : g a4 = h a4) (e5 : g a5 = h a5) (e6 : g a6 = h a6) (e7 : g a7 = h a7) (e8 : g a8 = h a8) (e9 : g a9 = h a9) (er : r' a1 = r a1) (ek : ∀ v, v < n → k' v = k v) (ew : ∀ v : Nat, v < n → v < 3 ∨ v = 14 ∨ v = 25 ∨ v = 36 ∨ 86 < v → g v = h v) (nn : n ≤ n') : cR P a1 a2 a3 a4 a5 a6 a7 a8 a9 k' g r' n' p w := by
  obtain ⟨r0, r1, r2, r3, r4, r5⟩ := c
  refine ⟨by rw [e]; exact r0, fun t t0 t1 => ?_, fun t t0 t1 => ?_, by rw [e5, e6, e7]; exact r3, by rw [e7]; exact r4, by rw [e8, e9]; exact r5⟩
  · obtain ⟨v, v1, v2, v3⟩ := r1 t t0 t1
    obtain ⟨v9, c9, u1, u2, u3, u4⟩ := r2 t t0 (by omega)
    rw [v1] at u1
    cases u1
    refine ⟨v, by rw [er]; exact v1, wk_up v2 (ek v u4) ?_, by rw [e2, e3, e4]; exact v3⟩
    by_cases q : v < 3 ∨ v = 14 ∨ v = 25 ∨ v = 36 ∨ 86 < v
    · exact ew v u4 q
    · exfalso
      have hv : zkF k v = zkt9 v := zkF_t (by omega) (by omega)
      rw [hv] at u2
      have := zkt9_no (v := v) (by omega) (by omega) (by omega) (by omega) (by omega)
      rw [u2] at this
      dsimp only at this
      rcases this with q9 | q9
      · exact q9 rfl
      · rw [q9] at u3
        cases u3
  · obtain ⟨v9, c9, u1, u2, u3, u4⟩ := r2 t t0 t1
    exact ⟨v9, c9, by rw [er]; exact u1, (zkF_eq (ek v9 u4)).trans u2, u3, by omega⟩
theorem ct_digits {E : zE} {d : Nat} {k : Nat → Nat × Nat} {h : Nat → Int → Int} {r : Nat → Int → Option Nat} {l : Nat → Nat → Int64} {n : Nat} {c : Int} (zc : zb c) : zCT E d M_X11_digitsBehind [.int (iI (c))] (zJ (k, h, r, l, n)) 0 0 (zV (.int (iI ((dgs c : Int)))) (zJ (k, h, r, l, n))) := by
  have ok := ok_X11_digitsBehind
  refine zCT_of pn_X11_digitsBehind (Nat.le_of_ble_eq_true rfl) ?_
  show zGo _ _ _ _ _ _ 0 ([some (.int (iI (c)))], [], _, _, _)
  refine s_ldI0 ok rfl ?_
  refine s_sw ok rfl ?_
  refine zsw_c zc (by first | exact hb _ _ | exact ⟨by omega, by omega⟩) (fun c1 => ?_) (fun c1_103 => ?_)
  · refine s_ci ok rfl ?_
    refine s_retI ok rfl ⟨congrArg (fun z => some (Value.int (iI z))) (by first | (subst c1; rfl) | (unfold dgs; (repeat (first | rw [if_pos (by omega)] | rw [if_neg (by omega)])); rfl)), rfl⟩
  refine zsw_c zc (by first | exact hb _ _ | exact ⟨by omega, by omega⟩) (fun c1 => ?_) (fun c1_104 => ?_)
  · refine s_ci ok rfl ?_
    refine s_retI ok rfl ⟨congrArg (fun z => some (Value.int (iI z))) (by first | (subst c1; rfl) | (unfold dgs; (repeat (first | rw [if_pos (by omega)] | rw [if_neg (by omega)])); rfl)), rfl⟩
  refine zsw_c zc (by first | exact hb _ _ | exact ⟨by omega, by omega⟩) (fun c1 => ?_) (fun c1_105 => ?_)
  · refine s_ci ok rfl ?_
    refine s_retI ok rfl ⟨congrArg (fun z => some (Value.int (iI z))) (by first | (subst c1; rfl) | (unfold dgs; (repeat (first | rw [if_pos (by omega)] | rw [if_neg (by omega)])); rfl)), rfl⟩
  refine zsw_c zc (by first | exact hb _ _ | exact ⟨by omega, by omega⟩) (fun c1 => ?_) (fun c1_106 => ?_)
  · refine s_ci ok rfl ?_
    refine s_retI ok rfl ⟨congrArg (fun z => some (Value.int (iI z))) (by first | (subst c1; rfl) | (unfold dgs; (repeat (first | rw [if_pos (by omega)] | rw [if_neg (by omega)])); rfl)), rfl⟩
  refine zsw_c zc (by first | exact hb _ _ | exact ⟨by omega, by omega⟩) (fun c1 => ?_) (fun c1_107 => ?_)
  · refine s_ci ok rfl ?_
    refine s_retI ok rfl ⟨congrArg (fun z => some (Value.int (iI z))) (by first | (subst c1; rfl) | (unfold dgs; (repeat (first | rw [if_pos (by omega)] | rw [if_neg (by omega)])); rfl)), rfl⟩
  refine zsw_c zc (by first | exact hb _ _ | exact ⟨by omega, by omega⟩) (fun c1 => ?_) (fun c1_108 => ?_)
  · refine s_ci ok rfl ?_
    refine s_retI ok rfl ⟨congrArg (fun z => some (Value.int (iI z))) (by first | (subst c1; rfl) | (unfold dgs; (repeat (first | rw [if_pos (by omega)] | rw [if_neg (by omega)])); rfl)), rfl⟩
  refine zsw_c zc (by first | exact hb _ _ | exact ⟨by omega, by omega⟩) (fun c1 => ?_) (fun c1_109 => ?_)
  · refine s_ci ok rfl ?_
    refine s_retI ok rfl ⟨congrArg (fun z => some (Value.int (iI z))) (by first | (subst c1; rfl) | (unfold dgs; (repeat (first | rw [if_pos (by omega)] | rw [if_neg (by omega)])); rfl)), rfl⟩
  refine zsw_c zc (by first | exact hb _ _ | exact ⟨by omega, by omega⟩) (fun c1 => ?_) (fun c1_110 => ?_)
  · refine s_ci ok rfl ?_
    refine s_retI ok rfl ⟨congrArg (fun z => some (Value.int (iI z))) (by first | (subst c1; rfl) | (unfold dgs; (repeat (first | rw [if_pos (by omega)] | rw [if_neg (by omega)])); rfl)), rfl⟩
  refine zsw_c zc (by first | exact hb _ _ | exact ⟨by omega, by omega⟩) (fun c1 => ?_) (fun c1_111 => ?_)
  · refine s_ci ok rfl ?_
    refine s_retI ok rfl ⟨congrArg (fun z => some (Value.int (iI z))) (by first | (subst c1; rfl) | (unfold dgs; (repeat (first | rw [if_pos (by omega)] | rw [if_neg (by omega)])); rfl)), rfl⟩
  refine zsw_c zc (by first | exact hb _ _ | exact ⟨by omega, by omega⟩) (fun c1 => ?_) (fun c1_112 => ?_)
  · refine s_ci ok rfl ?_
    refine s_retI ok rfl ⟨congrArg (fun z => some (Value.int (iI z))) (by first | (subst c1; rfl) | (unfold dgs; (repeat (first | rw [if_pos (by omega)] | rw [if_neg (by omega)])); rfl)), rfl⟩
  refine zsw_c zc (by first | exact hb _ _ | exact ⟨by omega, by omega⟩) (fun c1 => ?_) (fun c1_113 => ?_)
  · refine s_ci ok rfl ?_
    refine s_retI ok rfl ⟨congrArg (fun z => some (Value.int (iI z))) (by first | (subst c1; rfl) | (unfold dgs; (repeat (first | rw [if_pos (by omega)] | rw [if_neg (by omega)])); rfl)), rfl⟩
  refine zsw_c zc (by first | exact hb _ _ | exact ⟨by omega, by omega⟩) (fun c1 => ?_) (fun c1_114 => ?_)
  · refine s_ci ok rfl ?_
    refine s_retI ok rfl ⟨congrArg (fun z => some (Value.int (iI z))) (by first | (subst c1; rfl) | (unfold dgs; (repeat (first | rw [if_pos (by omega)] | rw [if_neg (by omega)])); rfl)), rfl⟩
  refine zsw_c zc (by first | exact hb _ _ | exact ⟨by omega, by omega⟩) (fun c1 => ?_) (fun c1_115 => ?_)
  · refine s_ci ok rfl ?_
    refine s_retI ok rfl ⟨congrArg (fun z => some (Value.int (iI z))) (by first | (subst c1; rfl) | (unfold dgs; (repeat (first | rw [if_pos (by omega)] | rw [if_neg (by omega)])); rfl)), rfl⟩
  refine zsw_c zc (by first | exact hb _ _ | exact ⟨by omega, by omega⟩) (fun c1 => ?_) (fun c1_116 => ?_)
  · refine s_ci ok rfl ?_
    refine s_retI ok rfl ⟨congrArg (fun z => some (Value.int (iI z))) (by first | (subst c1; rfl) | (unfold dgs; (repeat (first | rw [if_pos (by omega)] | rw [if_neg (by omega)])); rfl)), rfl⟩
  refine zsw_c zc (by first | exact hb _ _ | exact ⟨by omega, by omega⟩) (fun c1 => ?_) (fun c1_117 => ?_)
  · refine s_ci ok rfl ?_
    refine s_retI ok rfl ⟨congrArg (fun z => some (Value.int (iI z))) (by first | (subst c1; rfl) | (unfold dgs; (repeat (first | rw [if_pos (by omega)] | rw [if_neg (by omega)])); rfl)), rfl⟩
  refine zsw_c zc (by first | exact hb _ _ | exact ⟨by omega, by omega⟩) (fun c1 => ?_) (fun c1_118 => ?_)
  · refine s_ci ok rfl ?_
    refine s_retI ok rfl ⟨congrArg (fun z => some (Value.int (iI z))) (by first | (subst c1; rfl) | (unfold dgs; (repeat (first | rw [if_pos (by omega)] | rw [if_neg (by omega)])); rfl)), rfl⟩
  refine zsw_c zc (by first | exact hb _ _ | exact ⟨by omega, by omega⟩) (fun c1 => ?_) (fun c1_119 => ?_)
  · refine s_ci ok rfl ?_
    refine s_retI ok rfl ⟨congrArg (fun z => some (Value.int (iI z))) (by first | (subst c1; rfl) | (unfold dgs; (repeat (first | rw [if_pos (by omega)] | rw [if_neg (by omega)])); rfl)), rfl⟩
  refine zsw_c zc (by first | exact hb _ _ | exact ⟨by omega, by omega⟩) (fun c1 => ?_) (fun c1_120 => ?_)
  · refine s_ci ok rfl ?_
    refine s_retI ok rfl ⟨congrArg (fun z => some (Value.int (iI z))) (by first | (subst c1; rfl) | (unfold dgs; (repeat (first | rw [if_pos (by omega)] | rw [if_neg (by omega)])); rfl)), rfl⟩
  show zGo _ _ _ _ _ _ 105 _
  refine s_ci ok rfl ?_
  refine s_retI ok rfl ⟨congrArg (fun z => some (Value.int (iI z))) (by first | (subst c1; rfl) | (unfold dgs; (repeat (first | rw [if_pos (by omega)] | rw [if_neg (by omega)])); rfl)), rfl⟩
theorem lp_bad19 {E : zE} {d : Nat} {k : Nat → Nat × Nat} {h : Nat → Int → Int} {r : Nat → Int → Option Nat} {l : Nat → Nat → Int64} {n : Nat} {w L : Nat} {so : Int} (hw : rw_ k h r w (w + 1) L so) (hy : ∀ j : Int, -128 ≤ tc (h (w + 1)) L j ∧ tc (h (w + 1)) L j ≤ 127) {a V9 : Int} (a0 : 0 ≤ a) (a1 : a ≤ 200) (l1 : L ≤ 100) (dg : dgs ((tc (h (w + 1)) L) a) ≤ 7) (hV : sFst (nd (tc (h (w + 1)) L) (a + 1)) (dgs ((tc (h (w + 1)) L) a)) < dgs ((tc (h (w + 1)) L) a) → V9 = a + 1 + sFst (nd (tc (h (w + 1)) L) (a + 1)) (dgs ((tc (h (w + 1)) L) a))) (hX : sFst (nd (tc (h (w + 1)) L) (a + 1)) (dgs ((tc (h (w + 1)) L) a)) = dgs ((tc (h (w + 1)) L) a) → zGo E (d + 2) M_X11_firstBadByte 0 0 (zV (.int (iI V9)) (zJ (k, h, r, l, n))) 58 ([some (.ref w), some (.int (iI (a))), some (.int (iI ((dgs ((tc (h (w + 1)) L) a) : Int)))), some (.int (iI ((dgs ((tc (h (w + 1)) L) a) : Int) + 1)))], [], zJ (k, h, r, l, n), 0, 0)) : ∀ c : Nat, ∀ m : Nat, sFst (nd (tc (h (w + 1)) L) (a + 1)) m = m → dgs ((tc (h (w + 1)) L) a) < m + c → m ≤ dgs ((tc (h (w + 1)) L) a) → zGo E (d + 2) M_X11_firstBadByte 0 0 (zV (.int (iI V9)) (zJ (k, h, r, l, n))) 19 ([some (.ref w), some (.int (iI (a))), some (.int (iI ((dgs ((tc (h (w + 1)) L) a) : Int)))), some (.int (iI ((m : Int) + 1)))], [], zJ (k, h, r, l, n), 0, 0) := by
  have ok := ok_X11_firstBadByte
  intro c
  induction c with
  | zero =>
    intros
    omega
  | succ c ih =>
    intro m hm g1 g2
    have sin := sFst_in (W := nd (tc (h (w + 1)) L) (a + 1)) (dgs ((tc (h (w + 1)) L) a))
    refine s_ldI3 ok rfl ?_
    refine s_ldI2 ok rfl ?_
    refine s_c_gt ok rfl ⟨by omega, by omega⟩ ⟨by omega, by omega⟩ (fun c21 => ?_) (fun c21 => ?_)
    · rw [show ((m : Int) + 1) = (dgs ((tc (h (w + 1)) L) a) : Int) + 1 by omega]
      refine hX ?_
      rw [show dgs ((tc (h (w + 1)) L) a) = m by omega]
      exact hm
    · refine s_ldA0 ok rfl ?_
      refine s_ldI1 ok rfl ?_
      refine s_ldI3 ok rfl ?_
      refine s_add ok rfl ?_
      rw [show a + ((m : Int) + 1) = a + 1 + (m : Int) by omega]
      refine s_callV ok rfl rfl rfl rfl hw.1 rfl (ct_rat hw (by exact ⟨by omega, by omega⟩)) ?_
      refine s_ci ok rfl ?_
      refine s_c_lt ok rfl (by have := hy (a + 1 + (m : Int)); exact ⟨by omega, by omega⟩) ⟨by omega, by omega⟩ (fun c33 => ?_) (fun c33 => ?_)
      · refine s_ldI1 ok rfl ?_
        refine s_ldI3 ok rfl ?_
        refine s_add ok rfl ?_
        have hb9 : nd (tc (h (w + 1)) L) (a + 1) (m : Int) = true := decide_eq_true (by omega)
        have e9 := sFst_hit (c := dgs ((tc (h (w + 1)) L) a)) hm hb9 (by omega)
        exact s_retI ok rfl ⟨congrArg (fun z => some (Value.int (iI z))) (by rw [hV (by omega), e9]; omega), rfl⟩
      · refine s_ldA0 ok rfl ?_
        refine s_ldI1 ok rfl ?_
        refine s_ldI3 ok rfl ?_
        refine s_add ok rfl ?_
        rw [show a + ((m : Int) + 1) = a + 1 + (m : Int) by omega]
        refine s_callV ok rfl rfl rfl rfl hw.1 rfl (ct_rat hw (by exact ⟨by omega, by omega⟩)) ?_
        refine s_ci ok rfl ?_
        refine s_c_le ok rfl (by have := hy (a + 1 + (m : Int)); exact ⟨by omega, by omega⟩) ⟨by omega, by omega⟩ (fun c45 => ?_) (fun c45 => ?_)
        · refine s_inc3 ok rfl rfl ?_
          refine s_goto ok rfl ?_
          rw [show (m : Int) + 1 + 1 = ((m + 1 : Nat) : Int) + 1 by omega]
          refine ih (m + 1) (sFst_no hm fun q => ?_) (by omega) (by omega)
          have q := of_decide_eq_true q
          omega
        · refine s_ldI1 ok rfl ?_
          refine s_ldI3 ok rfl ?_
          refine s_add ok rfl ?_
          have hb9 : nd (tc (h (w + 1)) L) (a + 1) (m : Int) = true := decide_eq_true (by omega)
          have e9 := sFst_hit (c := dgs ((tc (h (w + 1)) L) a)) hm hb9 (by omega)
          exact s_retI ok rfl ⟨congrArg (fun z => some (Value.int (iI z))) (by rw [hV (by omega), e9]; omega), rfl⟩
theorem dgs_in (c : Int) : dgs c ≤ 7 := by
  unfold dgs
  (repeat' split) <;> omega
theorem lp_bad2 {E : zE} {d : Nat} {k : Nat → Nat × Nat} {h : Nat → Int → Int} {r : Nat → Int → Option Nat} {l : Nat → Nat → Int64} {n : Nat} {w L : Nat} {so : Int} (hw : rw_ k h r w (w + 1) L so) (hy : ∀ j : Int, -128 ≤ tc (h (w + 1)) L j ∧ tc (h (w + 1)) L j ≤ 127) (l1 : L ≤ 100) : ∀ c : Nat, ∀ (a : Int) (u v : Option Value), znl u = true → znl v = true → 0 ≤ a → (a < L ∨ a = 0) → (L : Int) < a + c → zGo E (d + 2) M_X11_firstBadByte 0 0 (zV (.int (iI (fB (tc (h (w + 1)) L) (L : Int) (c) a))) (zJ (k, h, r, l, n))) 2 ([some (.ref w), some (.int (iI (a))), u, v], [], zJ (k, h, r, l, n), 0, 0) := by
  have ok := ok_X11_firstBadByte
  intro c
  induction c with
  | zero =>
    intros
    omega
  | succ c ih =>
    intro a u v hu hv a0 a1 g1
    have eF : fB (tc (h (w + 1)) L) (L : Int) (c + 1) a = if fB1 (tc (h (w + 1)) L) a = -1 then (if a + (dgs ((tc (h (w + 1)) L) a) : Int) + 2 < (L : Int) then fB (tc (h (w + 1)) L) (L : Int) c (a + (dgs ((tc (h (w + 1)) L) a) : Int) + 2) else -1) else fB1 (tc (h (w + 1)) L) a := rfl
    have d7 := dgs_in ((tc (h (w + 1)) L) a)
    refine s_ldA0 ok rfl ?_
    refine s_ldI1 ok rfl ?_
    refine s_callV ok rfl rfl rfl rfl hw.1 rfl (ct_rat hw (by exact ⟨by omega, by omega⟩)) ?_
    refine s_callS ok rfl rfl rfl rfl (ct_digits (by have := hy a; exact ⟨by omega, by omega⟩)) ?_
    refine s_stI2 ok rfl rfl ?_
    refine s_ldI2 ok rfl ?_
    refine s_if_eq ok rfl ⟨by omega, by omega⟩ (fun c12 => ?_) (fun c12 => ?_)
    · refine s_ldI1 ok rfl ?_
      have e1 : fB1 (tc (h (w + 1)) L) a = a := by
        unfold fB1
        rw [if_pos (by omega)]
      exact s_retI ok rfl ⟨congrArg (fun z => some (Value.int (iI z))) (by rw [eF, if_neg (by omega), e1]), rfl⟩
    · refine s_ci ok rfl ?_
      refine s_stI3 ok rfl rfl ?_
      refine lp_bad19 (E := E) (d := d) (k := k) (h := h) (r := r) (l := l) (n := n) hw hy a0 (by omega) l1 (dgs_in _) (fun q => ?_) (fun hs9 => ?_) 9 0 rfl (by have := dgs_in ((tc (h (w + 1)) L) a); omega) (by omega)
      · have e1 : fB1 (tc (h (w + 1)) L) a = a + 1 + sFst (nd (tc (h (w + 1)) L) (a + 1)) (dgs ((tc (h (w + 1)) L) a)) := by
          unfold fB1
          rw [if_neg (by omega), if_pos q]
        have sin := sFst_in (W := nd (tc (h (w + 1)) L) (a + 1)) (dgs ((tc (h (w + 1)) L) a))
        rw [eF, if_neg (by omega), e1]
      · refine s_ldI1 ok rfl ?_
        refine s_ldI2 ok rfl ?_
        refine s_ci ok rfl ?_
        refine s_add ok rfl ?_
        refine s_add ok rfl ?_
        refine s_stI1 ok rfl rfl ?_
        refine s_ldA0 ok rfl ?_
        refine s_ldI1 ok rfl ?_
        refine s_callV ok rfl rfl rfl rfl hw.1 rfl (ct_rat hw (by exact ⟨by omega, by omega⟩)) ?_
        refine s_ci ok rfl ?_
        have e9 : a + ((dgs ((tc (h (w + 1)) L) a) : Int) + 1) = a + 1 + (dgs ((tc (h (w + 1)) L) a) : Int) := by omega
        rw [e9]
        refine s_c_eq ok rfl (by have := hy (a + 1 + (dgs ((tc (h (w + 1)) L) a) : Int)); exact ⟨by omega, by omega⟩) ⟨by omega, by omega⟩ (fun c71 => ?_) (fun c71 => ?_)
        · have eg : fB1 (tc (h (w + 1)) L) a = -1 := by
            unfold fB1
            rw [if_neg (by omega), if_neg (by omega), if_pos c71]
          refine s_inc1 ok rfl rfl ?_
          refine s_ldI1 ok rfl ?_
          refine s_ldA0 ok rfl ?_
          refine s_callV ok rfl rfl rfl rfl hw.1 rfl (ct_rsize hw) ?_
          refine s_c_lt ok rfl ⟨by omega, by omega⟩ ⟨by omega, by omega⟩ (fun c84 => ?_) (fun c84 => ?_)
          · rw [show a + 1 + (dgs ((tc (h (w + 1)) L) a) : Int) + 1 = a + (dgs ((tc (h (w + 1)) L) a) : Int) + 2 by omega]
            rw [eF, if_pos eg, if_pos (by omega)]
            exact ih (a + (dgs ((tc (h (w + 1)) L) a) : Int) + 2) _ _ rfl rfl (by omega) (by omega) (by omega)
          · refine s_ci ok rfl ?_
            exact s_retI ok rfl ⟨congrArg (fun z => some (Value.int (iI z))) (by rw [eF, if_pos eg, if_neg (by omega)]), rfl⟩
        · refine s_ldI1 ok rfl ?_
          have eg : fB1 (tc (h (w + 1)) L) a = a + 1 + (dgs ((tc (h (w + 1)) L) a) : Int) := by
            unfold fB1
            rw [if_neg (by omega), if_neg (by omega), if_neg c71]
          exact s_retI ok rfl ⟨congrArg (fun z => some (Value.int (iI z))) (by rw [eF, if_neg (by omega), eg]), rfl⟩
theorem ct_badByte {E : zE} {d : Nat} {k : Nat → Nat × Nat} {h : Nat → Int → Int} {r : Nat → Int → Option Nat} {l : Nat → Nat → Int64} {n : Nat} {w L : Nat} {so : Int} (hw : rw_ k h r w (w + 1) L so) (hy : ∀ j : Int, -128 ≤ tc (h (w + 1)) L j ∧ tc (h (w + 1)) L j ≤ 127) (l1 : L ≤ 100) : zCT E (d + 2) M_X11_firstBadByte [.ref w] (zJ (k, h, r, l, n)) 0 0 (zV (.int (iI (fB (tc (h (w + 1)) L) (L : Int) 102 0))) (zJ (k, h, r, l, n))) := by
  have ok := ok_X11_firstBadByte
  refine zCT_of pn_X11_firstBadByte (Nat.le_of_ble_eq_true rfl) ?_
  show zGo _ _ _ _ _ _ 0 ([some (.ref w), none, none, none], [], _, _, _)
  refine s_ci ok rfl ?_
  refine s_stI1 ok rfl rfl ?_
  exact lp_bad2 (E := E) (d := d) (k := k) (h := h) (r := r) (l := l) (n := n) hw hy l1 102 0 none none rfl rfl (by omega) (by omega) (by omega)
