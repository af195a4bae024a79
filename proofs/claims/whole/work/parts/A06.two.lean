/-! the class: two who wait for each other -/
theorem cR15_fr {k : Nat → Nat × Nat} {g h : Nat → Int → Int} {r : Nat → Int → Option Nat} {n : Nat} {p : Int → Int} {w : Int} (c : cR 15 16 17 18 19 20 21 22 23 24 k h r n p w) (f : ∀ q : Nat, q < 37 ∨ 86 < q → g q = h q) : cR 15 16 17 18 19 20 21 22 23 24 k g r n p w := by
  obtain ⟨r0, r1, r2, r3, r4, r5⟩ := c
  refine ⟨?_, fun t t0 t1 => ?_, r2, ?_, ?_, ?_⟩
  · rw [f 15 (by omega)]; exact r0
  · obtain ⟨v, v1, v2, v3⟩ := r1 t t0 t1
    refine ⟨v, v1, wk_fr v2 (fW_fix fun q hq => f q (by omega)), ?_⟩
    rw [f 17 (by omega), f 18 (by omega), f 19 (by omega)]
    exact v3
  · rw [f 20 (by omega), f 21 (by omega), f 22 (by omega)]; exact r3
  · rw [f 22 (by omega)]; exact r4
  · rw [f 23 (by omega), f 24 (by omega)]; exact r5
/-- all cells but the trial's, the trip's and the two rows of choices -/
def cT2 (h g : Nat → Int → Int) : Prop := ∀ q : Nat, q < 15 ∨ (24 < q ∧ q < 37) ∨ (54 < q ∧ ¬ q = 57 ∧ ¬ q = 58) → g q = h q
theorem zp_4 {p : Int → Int} {A B x y u v : Int} (e : ¬ A = B) : zp (zp (zp (zp p A x) B y) A u) B v = zp (zp p A u) B v := by
  funext j
  unfold zp
  by_cases e1 : j = B
  · rw [if_pos e1, if_pos e1]
  · by_cases e2 : j = A
    · rw [if_neg e1, if_pos e2, if_neg e1, if_pos e2]
    · rw [if_neg e1, if_neg e2, if_neg e1, if_neg e2, if_neg e1, if_neg e2]
theorem twC_1 {F O : Int → Int} {q : Int} : ∀ c : Nat, (∀ y : Int, 0 ≤ y → y < c → F q ≤ F (3 * y + q % 3) ∧ O q ≤ O (q / 3 * 3 + y)) → twC F O q c = 1
  | 0, _ => rfl
  | c + 1, hy => by
    unfold twC
    rw [if_pos (hy (c : Int) (by omega) (by omega))]
    exact twC_1 c (fun y y0 y1 => hy y y0 (by omega))
theorem twC_0 {F O : Int → Int} {q : Int} {y : Int} (y0 : 0 ≤ y) (no : ¬ (F q ≤ F (3 * y + q % 3) ∧ O q ≤ O (q / 3 * 3 + y))) : ∀ c : Nat, y < c → twC F O q c = 0
  | 0, hc => by omega
  | c + 1, hc => by
    unfold twC
    by_cases e : (c : Int) = y
    · rw [if_neg (by rw [e]; exact no)]
    · have := twC_0 y0 no c (by omega)
      rw [this]
      split <;> rfl
theorem lp_gains {E : zE} {d : Nat} {k : Nat → Nat × Nat} {h : Nat → Int → Int} {r : Nat → Int → Option Nat} {l : Nat → Nat → Int64} {n : Nat} {F O : Int → Int} (tF : ∀ x : Int, 0 ≤ x → x < 9 → h 57 x = F x ∧ h 58 x = O x) (zF : ∀ x : Int, zb (F x)) (zO : ∀ x : Int, zb (O x)) {i9 j9 : Int} (u0 : 0 ≤ i9) (u1 : i9 < 3) (v0 : 0 ≤ j9) (v1 : j9 < 3) : ∀ c : Nat, ∀ m : Nat, (∀ y : Int, 0 ≤ y → y < m → F (3 * i9 + j9) ≤ F (3 * y + (3 * i9 + j9) % 3) ∧ O (3 * i9 + j9) ≤ O ((3 * i9 + j9) / 3 * 3 + y)) → 3 < m + c → m ≤ 3 → zGo E d M_X11_neitherGains 0 0 (zV (.int (iI (if twC F O (3 * i9 + j9) 3 = 1 then 1 else 0))) (zJ (k, h, r, l, n))) 26 ([some (.ref 3), some (.int (iI (i9))), some (.int (iI (j9))), some (.int (iI (F (3 * i9 + j9)))), some (.int (iI (O (3 * i9 + j9)))), some (.int (iI ((m : Int))))], [], zJ (k, h, r, l, n), 0, 0) := by
  have ok := ok_X11_neitherGains
  have em : (3 * i9 + j9) % 3 = j9 := by omega
  have ed3 : (3 * i9 + j9) / 3 * 3 = 3 * i9 := by omega
  intro c
  induction c with
  | zero =>
    intros
    omega
  | succ c ih =>
    intro m hy g1 g2
    refine s_ldI5 ok rfl ?_
    refine s_ci ok rfl ?_
    refine s_c_ge ok rfl ⟨by omega, by omega⟩ ⟨by omega, by omega⟩ (fun c29 => ?_) (fun c29 => ?_)
    · refine s_ci ok rfl ?_
      have t1 := twC_1 (F := F) (O := O) (q := 3 * i9 + j9) 3 (fun y y0 y1 => hy y y0 (by omega))
      exact s_retZ ok rfl (Or.inr rfl) ⟨congrArg (fun z => some (Value.int (iI z))) (if_pos t1).symm, rfl⟩
    · refine s_ldA0 ok rfl ?_
      refine s_getF ok rfl rfl rfl rfl ?_
      refine s_ci ok rfl ?_
      refine s_ldI5 ok rfl ?_
      refine s_mul ok rfl ?_
      refine s_ldI2 ok rfl ?_
      refine s_add ok rfl ?_
      refine s_iald ok rfl (by exact rfl) (by exact rfl) (by omega) (by omega) ?_
      rw [(tF (3 * (m : Int) + j9) (by omega) (by omega)).1]
      refine s_ldI3 ok rfl ?_
      refine s_c_lt ok rfl (zF _) (zF _) (fun c44 => ?_) (fun c44 => ?_)
      · refine s_ci ok rfl ?_
        have no : ¬ (F (3 * i9 + j9) ≤ F (3 * (m : Int) + (3 * i9 + j9) % 3) ∧ O (3 * i9 + j9) ≤ O ((3 * i9 + j9) / 3 * 3 + (m : Int))) := by
          rw [em, ed3]
          omega
        have t0 := twC_0 (by omega) no 3 (by omega)
        exact s_retZ ok rfl (Or.inl rfl) ⟨congrArg (fun z => some (Value.int (iI z))) (by rw [t0]; rfl), rfl⟩
      · refine s_ldA0 ok rfl ?_
        refine s_getF ok rfl rfl rfl rfl ?_
        refine s_ci ok rfl ?_
        refine s_ldI1 ok rfl ?_
        refine s_mul ok rfl ?_
        refine s_ldI5 ok rfl ?_
        refine s_add ok rfl ?_
        refine s_iald ok rfl (by exact rfl) (by exact rfl) (by omega) (by omega) ?_
        rw [(tF (3 * i9 + (m : Int)) (by omega) (by omega)).2]
        refine s_ldI4 ok rfl ?_
        refine s_c_ge ok rfl (zO _) (zO _) (fun c60 => ?_) (fun c60 => ?_)
        · refine s_inc5 ok rfl rfl ?_
          refine s_goto ok rfl ?_
          exact ih (m + 1) (fun y y0 y1 => by
            by_cases e : y = (m : Int)
            · rw [e, em, ed3]
              exact ⟨by omega, by omega⟩
            · exact hy y y0 (by omega)) (by omega) (by omega)
        · refine s_ci ok rfl ?_
          have no : ¬ (F (3 * i9 + j9) ≤ F (3 * (m : Int) + (3 * i9 + j9) % 3) ∧ O (3 * i9 + j9) ≤ O ((3 * i9 + j9) / 3 * 3 + (m : Int))) := by
            rw [em, ed3]
            omega
          have t0 := twC_0 (by omega) no 3 (by omega)
          exact s_retZ ok rfl (Or.inl rfl) ⟨congrArg (fun z => some (Value.int (iI z))) (by rw [t0]; rfl), rfl⟩
theorem ct_gains {E : zE} {d : Nat} {k : Nat → Nat × Nat} {h : Nat → Int → Int} {r : Nat → Int → Option Nat} {l : Nat → Nat → Int64} {n : Nat} {F O : Int → Int} (tF : ∀ x : Int, 0 ≤ x → x < 9 → h 57 x = F x ∧ h 58 x = O x) (zF : ∀ x : Int, zb (F x)) (zO : ∀ x : Int, zb (O x)) {i9 j9 : Int} (u0 : 0 ≤ i9) (u1 : i9 < 3) (v0 : 0 ≤ j9) (v1 : j9 < 3) : zCT E d M_X11_neitherGains [.ref 3, .int (iI (i9)), .int (iI (j9))] (zJ (k, h, r, l, n)) 0 0 (zV (.int (iI (if twC F O (3 * i9 + j9) 3 = 1 then 1 else 0))) (zJ (k, h, r, l, n))) := by
  have ok := ok_X11_neitherGains
  refine zCT_of pn_X11_neitherGains (Nat.le_of_ble_eq_true rfl) ?_
  show zGo _ _ _ _ _ _ 0 ([some (.ref 3), some (.int (iI (i9))), some (.int (iI (j9))), none, none, none], [], _, _, _)
  refine s_ldA0 ok rfl ?_
  refine s_getF ok rfl rfl rfl rfl ?_
  refine s_ci ok rfl ?_
  refine s_ldI1 ok rfl ?_
  refine s_mul ok rfl ?_
  refine s_ldI2 ok rfl ?_
  refine s_add ok rfl ?_
  refine s_iald ok rfl (by exact rfl) (by exact rfl) (by omega) (by omega) ?_
  rw [(tF (3 * i9 + j9) (by omega) (by omega)).1]
  refine s_stI3 ok rfl rfl ?_
  refine s_ldA0 ok rfl ?_
  refine s_getF ok rfl rfl rfl rfl ?_
  refine s_ci ok rfl ?_
  refine s_ldI1 ok rfl ?_
  refine s_mul ok rfl ?_
  refine s_ldI2 ok rfl ?_
  refine s_add ok rfl ?_
  refine s_iald ok rfl (by exact rfl) (by exact rfl) (by omega) (by omega) ?_
  rw [(tF (3 * i9 + j9) (by omega) (by omega)).2]
  refine s_stI4 ok rfl rfl ?_
  refine s_ci ok rfl ?_
  refine s_stI5 ok rfl rfl ?_
  exact lp_gains (E := E) (d := d) (k := k) (r := r) (l := l) (n := n) tF zF zO u0 u1 v0 v1 4 0 (fun y y0 y1 => by omega) (by omega) (by omega)
theorem lp_two50 {E : zE} {d : Nat} {k : Nat → Nat × Nat} {h : Nat → Int → Int} {r : Nat → Int → Option Nat} {l : Nat → Nat → Int64} {n : Nat} {Q : zQ} {p : Int → Int} (hs : pS p) (hR : cR 4 5 6 7 8 9 10 11 12 13 k h r n p (-4)) {a b : Int} (a0 : 0 ≤ a) (a1 : a < p 6) (b0 : 0 ≤ b) (b1 : b < p 6) (ab : ¬ a = b) {i9 : Int} (u0 : 0 ≤ i9) (u1 : i9 < 3) (hX : ∀ (g : Nat → Int → Int) (r9 : Nat → Int → Option Nat) (x y : Int) (u : Option Value), znl u = true → (0 ≤ x ∧ x ≤ 360 ∧ 0 ≤ y ∧ y ≤ 360) → cT2 h g ∧ cR 15 16 17 18 19 20 21 22 23 24 k g r9 n (zp (zp p (19 + 5 * a + 4) x) (19 + 5 * b + 4) y) (-4) ∧ (∀ q, ¬ q = 16 → r9 q = r q) ∧ (∀ z : Int, 0 ≤ z → z < 3 * i9 + 3 → g 57 z = (fun j => dA (pCh p a b j) (-4) 3 a) z ∧ g 58 z = (fun j => dA (pCh p a b j) (-4) 3 b) z) → zGo E (d + 10) M_X11_two 0 0 Q 157 ([some (.ref 3), some (.int (iI (a))), some (.int (iI (b))), some (.int (iI (i9))), u], [], zJ (k, g, r9, l, n), 0, 0)) : ∀ c : Nat, ∀ (m : Nat) (g : Nat → Int → Int) (r9 : Nat → Int → Option Nat) (x y : Int), (0 ≤ x ∧ x ≤ 360 ∧ 0 ≤ y ∧ y ≤ 360) → cT2 h g ∧ cR 15 16 17 18 19 20 21 22 23 24 k g r9 n (zp (zp p (19 + 5 * a + 4) x) (19 + 5 * b + 4) y) (-4) ∧ (∀ q, ¬ q = 16 → r9 q = r q) ∧ (∀ z : Int, 0 ≤ z → z < 3 * i9 + (m : Int) → g 57 z = (fun j => dA (pCh p a b j) (-4) 3 a) z ∧ g 58 z = (fun j => dA (pCh p a b j) (-4) 3 b) z) → 3 < m + c → m ≤ 3 → zGo E (d + 10) M_X11_two 0 0 Q 50 ([some (.ref 3), some (.int (iI (a))), some (.int (iI (b))), some (.int (iI (i9))), some (.int (iI ((m : Int))))], [], zJ (k, g, r9, l, n), 0, 0) := by
  have ok := ok_X11_two
  intro c
  induction c with
  | zero =>
    intros
    omega
  | succ c ih =>
    intro m g r9 x y ⟨x0, x1, y0, y1⟩ ⟨i1, i2, i3, i4⟩ g1 g2
    have hp := hs.1
    have hft := hs.2.2.2.1
    have p60 := hp.2.2.2.2.2.2.2.2.2.2.2.2.1
    have p68 := hp.2.2.2.2.2.2.2.2.2.2.2.2.2.1
    have p00 := hp.1
    have p04 := hp.2.1
    have hf : ∀ q : Int, 0 ≤ q → q < p 6 → ¬ pFr p q = 4 := fun q q0 q1 => by have := pOf_gt hp q0 (by omega) (hft q q0 q1); omega
    obtain ⟨va, -, -, -, -, ha8⟩ := cR4_one hR a0 a1
    obtain ⟨vb, -, -, -, -, hb8⟩ := cR4_one hR b0 b1
    have a300 := hs.2.1 a a0 (by omega)
    have b300 := hs.2.1 b b0 (by omega)
    have bad := (hp.2.2.2.2.2.2.2.2.2.2.2.2.2.2.2.2 a a0 (by omega)).2.2.2.2.1
    have bbd := (hp.2.2.2.2.2.2.2.2.2.2.2.2.2.2.2.2 b b0 (by omega)).2.2.2.2.1
    refine s_ldI4 ok rfl ?_
    refine s_ci ok rfl ?_
    refine s_c_ge ok rfl ⟨by omega, by omega⟩ ⟨by omega, by omega⟩ (fun c53 => ?_) (fun c53 => ?_)
    · rw [show (m : Int) = 3 by omega]
      exact hX g r9 x y (some (.int (iI 3))) rfl ⟨x0, x1, y0, y1⟩ ⟨i1, i2, i3, fun z z0 z1 => i4 z z0 (by omega)⟩
    · have eP : zp (zp (zp (zp p (19 + 5 * a + 4) x) (19 + 5 * b + 4) y) (19 + 5 * a + 4) (pBa p a + 5 * i9)) (19 + 5 * b + 4) (pBa p b + 5 * (m : Int)) = (pCh p a b (3 * i9 + (m : Int))) := by
        unfold pCh
        rw [zp_4 (by omega), show (3 * i9 + (m : Int)) / 3 = i9 by omega, show (3 * i9 + (m : Int)) % 3 = (m : Int) by omega]
      have hp9 : pOK (pCh p a b (3 * i9 + (m : Int))) := pCh_ok hp a0 (by omega) b0 (by omega) (fun s s0 s1 => hs.2.1 s s0 s1) (by omega) (by omega)
      have e69 : (pCh p a b (3 * i9 + (m : Int))) 6 = p 6 := (zp_ne (by omega)).trans (zp_ne (by omega))
      have hft9 : ∀ u : Int, 0 ≤ u → u < (pCh p a b (3 * i9 + (m : Int))) 6 → pFr (pCh p a b (3 * i9 + (m : Int))) u < pTo (pCh p a b (3 * i9 + (m : Int))) u := fun u u0 u1 => by
        rw [show pFr (pCh p a b (3 * i9 + (m : Int))) u = pFr p u from (zp_ne (by omega)).trans (zp_ne (by omega)), show pTo (pCh p a b (3 * i9 + (m : Int))) u = pTo p u from (zp_ne (by omega)).trans (zp_ne (by omega))]
        exact hft u u0 (by omega)
      have hf9 : ∀ u : Int, 0 ≤ u → u < (pCh p a b (3 * i9 + (m : Int))) 6 → ¬ pFr (pCh p a b (3 * i9 + (m : Int))) u = 4 := fun u u0 u1 => by have := pOf_gt hp9 u0 (by omega) (hft9 u u0 u1); omega
      have hR9 : cR 15 16 17 18 19 20 21 22 23 24 k (zv (zv g 19 a (pBa p a + 5 * i9)) 19 b (pBa p b + 5 * (m : Int))) r9 n (pCh p a b (3 * i9 + (m : Int))) (-4) := by
        have z1 := cR15_base i2 (x := a) (v := (pBa p a + 5 * i9)) a0 (by rw [show zp (zp p (19 + 5 * a + 4) x) (19 + 5 * b + 4) y 0 = p 0 from (zp_ne (by omega)).trans (zp_ne (by omega))]; exact p04)
        rw [sg_4] at z1
        have z2 := cR15_base z1 (x := b) (v := (pBa p b + 5 * (m : Int))) b0 (by rw [show zp (zp (zp p (19 + 5 * a + 4) x) (19 + 5 * b + 4) y) (19 + 5 * a + 4) (pBa p a + 5 * i9) 0 = p 0 from (zp_ne (by omega)).trans ((zp_ne (by omega)).trans (zp_ne (by omega)))]; exact p04)
        rw [sg_4, eP] at z2
        exact z2
      refine s_ldA0 ok rfl ?_
      refine s_getF ok rfl rfl rfl rfl ?_
      refine s_getF ok rfl rfl rfl rfl ?_
      refine s_ldI1 ok rfl ?_
      refine s_ldA0 ok rfl ?_
      refine s_getF ok rfl rfl rfl rfl ?_
      refine s_getF ok rfl rfl rfl rfl ?_
      refine s_ldI1 ok rfl ?_
      refine s_iald ok rfl (by exact rfl) (by exact rfl) (by omega) (by omega) ?_
      rw [show g 8 a = pBa p a from (congrFun (i1 8 (by omega)) a).trans ha8]
      refine s_ci ok rfl ?_
      refine s_ldI3 ok rfl ?_
      refine s_mul ok rfl ?_
      refine s_add ok rfl ?_
      refine s_iast ok rfl (by exact rfl) (by exact rfl) (by omega) (by omega) (fun q => by cases q) ?_
      refine s_ldA0 ok rfl ?_
      refine s_getF ok rfl rfl rfl rfl ?_
      refine s_getF ok rfl rfl rfl rfl ?_
      refine s_ldI2 ok rfl ?_
      refine s_ldA0 ok rfl ?_
      refine s_getF ok rfl rfl rfl rfl ?_
      refine s_getF ok rfl rfl rfl rfl ?_
      refine s_ldI2 ok rfl ?_
      refine s_iald ok rfl (by exact rfl) (by exact rfl) (by omega) (by omega) ?_
      rw [show zv g 19 a (pBa p a + 5 * i9) 8 b = pBa p b from (congrFun (i1 8 (by omega)) b).trans hb8]
      refine s_ci ok rfl ?_
      refine s_ldI4 ok rfl ?_
      refine s_mul ok rfl ?_
      refine s_add ok rfl ?_
      refine s_iast ok rfl (by exact rfl) (by exact rfl) (by omega) (by omega) (fun q => by cases q) ?_
      refine s_ldA0 ok rfl ?_
      refine s_getF ok rfl rfl rfl rfl ?_
      refine s_ldA0 ok rfl ?_
      refine s_getF ok rfl rfl rfl rfl ?_
      refine s_ci ok rfl ?_
      refine s_callVvx ok rfl rfl rfl rfl rfl rfl (ct_go15 (d := d + 1) (p := (pCh p a b (3 * i9 + (m : Int)))) (w := -4) (dd := 3) hp9 (Or.inr rfl) (Or.inl rfl) hf9 hR9) (fun σ110 hσ110 => ?_)
      obtain ⟨g110, rfl, hg110⟩ := hσ110
      obtain ⟨gf110, -, gC110, gT110, gS110⟩ := hg110
      have D110 := tD_of hp9 (Or.inl rfl) hft9 gT110 gS110
      have e37110 : g110 37 6 = (pCh p a b (3 * i9 + (m : Int))) 6 := gC110.1.trans cnP_4
      have hz110 : ∀ s : Int, 0 ≤ s → s < (pCh p a b (3 * i9 + (m : Int))) 6 → zb (g110 44 s) := fun s s0 s1 => by
        rw [(tD_one D110 s0 s1).1]
        split
        · exact ⟨by omega, by omega⟩
        · exact (dN_ok (dd := 3) hp9 (w := -4) ⟨by omega, by omega⟩).2.1 s
      have eA110 : zsum (tO g110) ((pCh p a b (3 * i9 + (m : Int))) 6).toNat = dMn (pCh p a b (3 * i9 + (m : Int))) (-4) 3 := by
        unfold dMn
        refine zsum_cg _ fun s s0 s1 => ?_
        have := (tD_a D110 (t := s) s0 (by rw [cnP_4]; omega)).2.1
        rw [sg_4] at this
        exact this
      have xa := (tD_a D110 (t := a) a0 (by rw [cnP_4, e69]; exact a1)).1
      have xb := (tD_a D110 (t := b) b0 (by rw [cnP_4, e69]; exact b1)).1
      rw [sg_4] at xa xb
      refine s_ldA0 ok rfl ?_
      refine s_getF ok rfl rfl rfl rfl ?_
      refine s_ci ok rfl ?_
      refine s_ldI3 ok rfl ?_
      refine s_mul ok rfl ?_
      refine s_ldI4 ok rfl ?_
      refine s_add ok rfl ?_
      refine s_ldA0 ok rfl ?_
      refine s_getF ok rfl rfl rfl rfl ?_
      refine s_ldI1 ok rfl ?_
      refine s_callV ok rfl rfl rfl rfl rfl rfl (ct_arrivalOf a0 (by omega) (hz110 a a0 (by omega))) ?_
      refine s_iast ok rfl (by exact rfl) (by exact rfl) (by omega) (by omega) (fun q => by cases q) ?_
      refine s_ldA0 ok rfl ?_
      refine s_getF ok rfl rfl rfl rfl ?_
      refine s_ci ok rfl ?_
      refine s_ldI3 ok rfl ?_
      refine s_mul ok rfl ?_
      refine s_ldI4 ok rfl ?_
      refine s_add ok rfl ?_
      refine s_ldA0 ok rfl ?_
      refine s_getF ok rfl rfl rfl rfl ?_
      refine s_ldI2 ok rfl ?_
      refine s_callV ok rfl rfl rfl rfl rfl rfl (ct_arrivalOf (h := zv g110 57 (3 * i9 + (m : Int)) (tA g110 a)) b0 (by omega) (hz110 b b0 (by omega))) ?_
      rw [show tA (zv g110 57 (3 * i9 + (m : Int)) (tA g110 a)) b = tA g110 b from rfl]
      refine s_iast ok rfl (by exact rfl) (by exact rfl) (by omega) (by omega) (fun q => by cases q) ?_
      refine s_inc4 ok rfl rfl ?_
      refine s_goto ok rfl ?_
      refine ih (m + 1) (zv (zv g110 57 (3 * i9 + (m : Int)) (tA g110 a)) 58 (3 * i9 + (m : Int)) (tA g110 b)) r9 (pBa p a + 5 * i9) (pBa p b + 5 * (m : Int)) ⟨by omega, by omega, by omega, by omega⟩ ⟨fun q hq => ?_, ?_, i3, fun z z0 z1 => ?_⟩ (by omega) (by omega)
      · rw [zv_other (by omega), zv_other (by omega), gf110 q (by omega), zv_other (by omega), zv_other (by omega)]
        exact i1 q hq
      · have z9 := cR15_trip hR9 gf110
        have eP2 : zp (zp p (19 + 5 * a + 4) (pBa p a + 5 * i9)) (19 + 5 * b + 4) (pBa p b + 5 * (m : Int)) = (pCh p a b (3 * i9 + (m : Int))) := by
          unfold pCh
          rw [show (3 * i9 + (m : Int)) / 3 = i9 by omega, show (3 * i9 + (m : Int)) % 3 = (m : Int) by omega]
        rw [eP2]
        exact cR15_fr z9 (fun q hq => by rw [zv_other (by omega), zv_other (by omega)])
      · by_cases ez : z = 3 * i9 + (m : Int)
        · rw [ez, zv_other (by omega), zv_is, zv_is]
          exact ⟨xa, xb⟩
        · rw [zv_other (by omega), zv_at ez, zv_at ez, zv_other (by omega), gf110 57 (by omega), gf110 58 (by omega), zv_other (by omega), zv_other (by omega), zv_other (by omega), zv_other (by omega)]
          exact i4 z z0 (by omega)
theorem lp_two42 {E : zE} {d : Nat} {k : Nat → Nat × Nat} {h : Nat → Int → Int} {r : Nat → Int → Option Nat} {l : Nat → Nat → Int64} {n : Nat} {Q : zQ} {p : Int → Int} (hs : pS p) (hR : cR 4 5 6 7 8 9 10 11 12 13 k h r n p (-4)) {a b : Int} (a0 : 0 ≤ a) (a1 : a < p 6) (b0 : 0 ≤ b) (b1 : b < p 6) (ab : ¬ a = b) (hX : ∀ (g : Nat → Int → Int) (r9 : Nat → Int → Option Nat) (x y : Int) (u : Option Value), znl u = true → (0 ≤ x ∧ x ≤ 360 ∧ 0 ≤ y ∧ y ≤ 360) → cT2 h g ∧ cR 15 16 17 18 19 20 21 22 23 24 k g r9 n (zp (zp p (19 + 5 * a + 4) x) (19 + 5 * b + 4) y) (-4) ∧ (∀ q, ¬ q = 16 → r9 q = r q) ∧ (∀ z : Int, 0 ≤ z → z < 9 → g 57 z = (fun j => dA (pCh p a b j) (-4) 3 a) z ∧ g 58 z = (fun j => dA (pCh p a b j) (-4) 3 b) z) → ∀ i3 : Int, zGo E (d + 10) M_X11_two 0 0 Q 163 ([some (.ref 3), some (.int (iI (a))), some (.int (iI (b))), some (.int (iI (i3))), u], [], zJ (k, g, r9, l, n), 0, 0)) : ∀ c : Nat, ∀ (m : Nat) (g : Nat → Int → Int) (r9 : Nat → Int → Option Nat) (x y : Int) (u : Option Value), znl u = true → (0 ≤ x ∧ x ≤ 360 ∧ 0 ≤ y ∧ y ≤ 360) → cT2 h g ∧ cR 15 16 17 18 19 20 21 22 23 24 k g r9 n (zp (zp p (19 + 5 * a + 4) x) (19 + 5 * b + 4) y) (-4) ∧ (∀ q, ¬ q = 16 → r9 q = r q) ∧ (∀ z : Int, 0 ≤ z → z < 3 * (m : Int) → g 57 z = (fun j => dA (pCh p a b j) (-4) 3 a) z ∧ g 58 z = (fun j => dA (pCh p a b j) (-4) 3 b) z) → 3 < m + c → m ≤ 3 → zGo E (d + 10) M_X11_two 0 0 Q 42 ([some (.ref 3), some (.int (iI (a))), some (.int (iI (b))), some (.int (iI ((m : Int)))), u], [], zJ (k, g, r9, l, n), 0, 0) := by
  have ok := ok_X11_two
  intro c
  induction c with
  | zero =>
    intros
    omega
  | succ c ih =>
    intro m g r9 x y u hu hr ⟨i1, i2, i3, i4⟩ g1 g2
    refine s_ldI3 ok rfl ?_
    refine s_ci ok rfl ?_
    refine s_c_ge ok rfl ⟨by omega, by omega⟩ ⟨by omega, by omega⟩ (fun c44 => ?_) (fun c44 => ?_)
    · exact hX g r9 x y u hu hr ⟨i1, i2, i3, fun z z0 z1 => i4 z z0 (by omega)⟩ (m : Int)
    · refine s_ci ok rfl ?_
      refine s_stI4 ok rfl rfl ?_
      exact lp_two50 (E := E) (d := d) (k := k) (h := h) (r := r) (l := l) (n := n) hs hR a0 a1 b0 b1 ab (i9 := (m : Int)) (by omega) (by omega) (fun g7 r7 x7 y7 u7 hu7 hr7 hi7 => by
        refine s_inc3 ok rfl rfl ?_
        refine s_goto ok rfl ?_
        exact ih (m + 1) g7 r7 x7 y7 u7 hu7 hr7 ⟨hi7.1, hi7.2.1, hi7.2.2.1, fun z z0 z1 => hi7.2.2.2 z z0 (by omega)⟩ (by omega) (by omega)) 4 0 g r9 x y hr ⟨i1, i2, i3, fun z z0 z1 => i4 z z0 (by omega)⟩ (by omega) (by omega)
theorem lp_two173 {E : zE} {d : Nat} {k : Nat → Nat × Nat} {h : Nat → Int → Int} {r : Nat → Int → Option Nat} {l : Nat → Nat → Int64} {n : Nat} {F O : Int → Int} {F9 : zS → Prop} (tF : ∀ x : Int, 0 ≤ x → x < 9 → h 57 x = F x ∧ h 58 x = O x) (zF : ∀ x : Int, zb (F x)) (zO : ∀ x : Int, zb (O x)) (hF9 : F9 (zJ (k, h, r, l, n))) {a b : Int} {i9 : Nat} (u0 : 0 ≤ (i9 : Int)) (u1 : (i9 : Int) < 3) (hX : sFst (twW F O) (3 * i9 + 3) = ((3 * i9 + 3 : Nat) : Int) → ∀ u : Option Value, znl u = true → zGo E (d + 10) M_X11_two 0 0 (zVx (.int (iI (if sFst (twW F O) 9 = 9 then -4 else 10 * (sFst (twW F O) 9 / 3) + sFst (twW F O) 9 % 3))) F9) 203 ([some (.ref 3), some (.int (iI (a))), some (.int (iI (b))), some (.int (iI ((i9 : Int)))), u], [], zJ (k, h, r, l, n), 0, 0)) : ∀ c : Nat, ∀ m : Nat, sFst (twW F O) (3 * i9 + m) = ((3 * i9 + m : Nat) : Int) → 3 < m + c → m ≤ 3 → zGo E (d + 10) M_X11_two 0 0 (zVx (.int (iI (if sFst (twW F O) 9 = 9 then -4 else 10 * (sFst (twW F O) 9 / 3) + sFst (twW F O) 9 % 3))) F9) 173 ([some (.ref 3), some (.int (iI (a))), some (.int (iI (b))), some (.int (iI ((i9 : Int)))), some (.int (iI ((m : Int))))], [], zJ (k, h, r, l, n), 0, 0) := by
  have ok := ok_X11_two
  intro c
  induction c with
  | zero =>
    intros
    omega
  | succ c ih =>
    intro m hm g1 g2
    refine s_ldI4 ok rfl ?_
    refine s_ci ok rfl ?_
    refine s_c_ge ok rfl (by first | exact hb _ _ | exact ⟨by omega, by omega⟩) (by first | exact hb _ _ | exact ⟨by omega, by omega⟩) (fun c176 => ?_) (fun c176 => ?_)
    · rw [show (m : Int) = 3 by omega]
      exact hX (by rw [show 3 * i9 + 3 = 3 * i9 + m by omega]; exact hm) (some (.int (iI 3))) rfl
    · refine s_ldA0 ok rfl ?_
      refine s_ldI3 ok rfl ?_
      refine s_ldI4 ok rfl ?_
      refine s_callV ok rfl rfl rfl rfl rfl rfl (ct_gains tF zF zO u0 u1 (by omega) (by omega)) ?_
      refine s_if_eq ok rfl zif01 (fun c186 => ?_) (fun c186 => ?_)
      · refine s_inc4 ok rfl rfl ?_
        refine s_goto ok rfl ?_
        refine ih (m + 1) ?_ (by omega) (by omega)
        have hw : ¬ (twW F O) (((3 * i9 + m : Nat) : Int)) = true := fun q => zif_f c186 (by unfold twW at q; have z := of_decide_eq_true q; rw [show ((3 * i9 + m : Nat) : Int) = 3 * (i9 : Int) + (m : Int) by omega] at z; exact z)
        rw [show 3 * i9 + (m + 1) = (3 * i9 + m) + 1 by omega, sFst_s, hm, if_neg (by omega), if_neg hw]
        omega
      · refine s_ci ok rfl ?_
        refine s_ldI3 ok rfl ?_
        refine s_mul ok rfl ?_
        refine s_ldI4 ok rfl ?_
        refine s_add ok rfl ?_
        have yt := zif_t c186
        have hw : (twW F O) (((3 * i9 + m : Nat) : Int)) = true := by
          unfold twW
          refine decide_eq_true ?_
          rw [show ((3 * i9 + m : Nat) : Int) = 3 * (i9 : Int) + (m : Int) by omega]
          exact yt
        have e1 : sFst (twW F O) (3 * i9 + m + 1) = ((3 * i9 + m : Nat) : Int) := by
          rw [sFst_s, hm, if_neg (by omega), if_pos hw]
        have e9 := sFst_fix (W := (twW F O)) (c := 3 * i9 + m + 1) (by rw [e1]; omega) (9 - (3 * i9 + m + 1))
        rw [show 3 * i9 + m + 1 + (9 - (3 * i9 + m + 1)) = 9 by omega, e1] at e9
        exact s_retI ok rfl ⟨congrArg (fun z => some (Value.int (iI z))) (by rw [e9, if_neg (by omega)]; omega), hF9⟩
theorem lp_two165 {E : zE} {d : Nat} {k : Nat → Nat × Nat} {h : Nat → Int → Int} {r : Nat → Int → Option Nat} {l : Nat → Nat → Int64} {n : Nat} {F O : Int → Int} {F9 : zS → Prop} (tF : ∀ x : Int, 0 ≤ x → x < 9 → h 57 x = F x ∧ h 58 x = O x) (zF : ∀ x : Int, zb (F x)) (zO : ∀ x : Int, zb (O x)) (hF9 : F9 (zJ (k, h, r, l, n))) {a b : Int} : ∀ c : Nat, ∀ (m : Nat) (u : Option Value), znl u = true → sFst (twW F O) (3 * m) = ((3 * m : Nat) : Int) → 3 < m + c → m ≤ 3 → zGo E (d + 10) M_X11_two 0 0 (zVx (.int (iI (if sFst (twW F O) 9 = 9 then -4 else 10 * (sFst (twW F O) 9 / 3) + sFst (twW F O) 9 % 3))) F9) 165 ([some (.ref 3), some (.int (iI (a))), some (.int (iI (b))), some (.int (iI ((m : Int)))), u], [], zJ (k, h, r, l, n), 0, 0) := by
  have ok := ok_X11_two
  intro c
  induction c with
  | zero =>
    intros
    omega
  | succ c ih =>
    intro m u hu hm g1 g2
    refine s_ldI3 ok rfl ?_
    refine s_ci ok rfl ?_
    refine s_c_ge ok rfl ⟨by omega, by omega⟩ ⟨by omega, by omega⟩ (fun c167 => ?_) (fun c167 => ?_)
    · refine s_ci ok rfl ?_
      have em : m = 3 := by omega
      subst em
      exact s_retI ok rfl ⟨congrArg (fun z => some (Value.int (iI z))) (if_pos hm).symm, hF9⟩
    · refine s_ci ok rfl ?_
      refine s_stI4 ok rfl rfl ?_
      exact lp_two173 (E := E) (d := d) (k := k) (h := h) (r := r) (l := l) (n := n) tF zF zO hF9 (i9 := m) (by omega) (by omega) (fun hm7 u7 hu7 => by
        refine s_inc3 ok rfl rfl ?_
        refine s_goto ok rfl ?_
        exact ih (m + 1) u7 hu7 hm7 (by omega) (by omega)) 4 0 hm (by omega) (by omega)
def twZ (F : Int → Int) (x : Int) : Int := if 0 ≤ x ∧ x < 9 then F x else 0
theorem ct_two11 {E : zE} {d : Nat} {k : Nat → Nat × Nat} {h : Nat → Int → Int} {r : Nat → Int → Option Nat} {l : Nat → Nat → Int64} {n : Nat} {p : Int → Int} (hs : pS p) (hR : cR 4 5 6 7 8 9 10 11 12 13 k h r n p (-4)) {a b : Int} (za : zb a) (z2 : zb b) : zCT E (d + 10) M_X11_two [.ref 3, .int (iI (a)), .int (iI (b))] (zJ (k, h, r, l, n)) 0 0 (zVx (.int (iI (if (0 ≤ a ∧ a < p 6) ∧ (0 ≤ b ∧ b < p 6) ∧ ¬ a = b then (if sFst (twW (fun j => dA (pCh p a b j) (-4) 3 a) (fun j => dA (pCh p a b j) (-4) 3 b)) 9 = 9 then -4 else 10 * (sFst (twW (fun j => dA (pCh p a b j) (-4) 3 a) (fun j => dA (pCh p a b j) (-4) 3 b)) 9 / 3) + sFst (twW (fun j => dA (pCh p a b j) (-4) 3 a) (fun j => dA (pCh p a b j) (-4) 3 b)) 9 % 3) else -1))) (fun s => ∃ g r9, s = zJ (k, g, r9, l, n) ∧ cT2 h g ∧ (∀ q, ¬ q = 16 → r9 q = r q))) := by
  have ok := ok_X11_two
  refine zCT_of pn_X11_two (Nat.le_of_ble_eq_true rfl) ?_
  show zGo _ _ _ _ _ _ 0 ([some (.ref 3), some (.int (iI (a))), some (.int (iI (b))), none, none], [], _, _, _)
  have hp := hs.1
  have hft := hs.2.2.2.1
  have p60 := hp.2.2.2.2.2.2.2.2.2.2.2.2.1
  have p68 := hp.2.2.2.2.2.2.2.2.2.2.2.2.2.1
  have p00 := hp.1
  have p04 := hp.2.1
  have hf : ∀ q : Int, 0 ≤ q → q < p 6 → ¬ pFr p q = 4 := fun q q0 q1 => by have := pOf_gt hp q0 (by omega) (hft q q0 q1); omega
  refine s_ldA0 ok rfl ?_
  refine s_getF ok rfl rfl rfl rfl ?_
  refine s_ldI1 ok rfl ?_
  refine s_callV ok rfl rfl rfl rfl rfl rfl (ct_isPerson4 (cR4_n hR) p60 p68 za) ?_
  refine s_if_eq ok rfl zif01 (fun c8 => ?_) (fun c8 => ?_)
  · refine s_ci ok rfl ?_
    first
      | exact s_retI ok rfl ⟨congrArg (fun z => some (Value.int (iI z))) (if_neg (fun q => zif_f c8 q.1)).symm, h, r, rfl, fun _ _ => rfl, fun _ _ => rfl⟩
      | exact s_retI ok rfl ⟨congrArg (fun z => some (Value.int (iI z))) (if_neg (fun q => zif_f c19 q.2.1)).symm, h, r, rfl, fun _ _ => rfl, fun _ _ => rfl⟩
      | exact s_retI ok rfl ⟨congrArg (fun z => some (Value.int (iI z))) (if_neg (fun q => q.2.2 c24)).symm, h, r, rfl, fun _ _ => rfl, fun _ _ => rfl⟩
  · refine s_ldA0 ok rfl ?_
    refine s_getF ok rfl rfl rfl rfl ?_
    refine s_ldI2 ok rfl ?_
    refine s_callV ok rfl rfl rfl rfl rfl rfl (ct_isPerson4 (cR4_n hR) p60 p68 z2) ?_
    refine s_if_eq ok rfl zif01 (fun c19 => ?_) (fun c19 => ?_)
    · refine s_ci ok rfl ?_
      first
        | exact s_retI ok rfl ⟨congrArg (fun z => some (Value.int (iI z))) (if_neg (fun q => zif_f c8 q.1)).symm, h, r, rfl, fun _ _ => rfl, fun _ _ => rfl⟩
        | exact s_retI ok rfl ⟨congrArg (fun z => some (Value.int (iI z))) (if_neg (fun q => zif_f c19 q.2.1)).symm, h, r, rfl, fun _ _ => rfl, fun _ _ => rfl⟩
        | exact s_retI ok rfl ⟨congrArg (fun z => some (Value.int (iI z))) (if_neg (fun q => q.2.2 c24)).symm, h, r, rfl, fun _ _ => rfl, fun _ _ => rfl⟩
    · refine s_ldI1 ok rfl ?_
      refine s_ldI2 ok rfl ?_
      refine s_c_eq ok rfl za z2 (fun c24 => ?_) (fun c24 => ?_)
      · refine s_ci ok rfl ?_
        first
          | exact s_retI ok rfl ⟨congrArg (fun z => some (Value.int (iI z))) (if_neg (fun q => zif_f c8 q.1)).symm, h, r, rfl, fun _ _ => rfl, fun _ _ => rfl⟩
          | exact s_retI ok rfl ⟨congrArg (fun z => some (Value.int (iI z))) (if_neg (fun q => zif_f c19 q.2.1)).symm, h, r, rfl, fun _ _ => rfl, fun _ _ => rfl⟩
          | exact s_retI ok rfl ⟨congrArg (fun z => some (Value.int (iI z))) (if_neg (fun q => q.2.2 c24)).symm, h, r, rfl, fun _ _ => rfl, fun _ _ => rfl⟩
      · have yes : (0 ≤ a ∧ a < p 6) ∧ (0 ≤ b ∧ b < p 6) ∧ ¬ a = b := ⟨zif_t c8, zif_t c19, c24⟩
        have yes9 := yes
        obtain ⟨⟨a0, a1⟩, ⟨b0, b1⟩, ab⟩ := yes
        obtain ⟨va, -, -, -, -, ha8⟩ := cR4_one hR a0 a1
        obtain ⟨vb, -, -, -, -, hb8⟩ := cR4_one hR b0 b1
        have a300 := hs.2.1 a a0 (by omega)
        have b300 := hs.2.1 b b0 (by omega)
        have bad := (hp.2.2.2.2.2.2.2.2.2.2.2.2.2.2.2.2 a a0 (by omega)).2.2.2.2.1
        have bbd := (hp.2.2.2.2.2.2.2.2.2.2.2.2.2.2.2.2 b b0 (by omega)).2.2.2.2.1
        refine s_ldA0 ok rfl ?_
        refine s_getF ok rfl rfl rfl rfl ?_
        refine s_ldA0 ok rfl ?_
        refine s_getF ok rfl rfl rfl rfl ?_
        refine s_callVvx ok rfl rfl rfl rfl rfl rfl (ct_become15_4 (d := d + 8) hR (by rw [cnP_4]; omega) p04) (fun σ37 hσ37 => ?_)
        obtain ⟨g37, r37, rfl, f37, i3, hQ⟩ := hσ37
        refine s_ci ok rfl ?_
        refine s_stI3 ok rfl rfl ?_
        rw [if_pos yes9]
        have hQ2 : cR 15 16 17 18 19 20 21 22 23 24 k g37 r37 n (zp (zp p (19 + 5 * a + 4) (p (19 + 5 * a + 4))) (19 + 5 * b + 4) (p (19 + 5 * b + 4))) (-4) := by
          rw [zp_id, zp_id]
          exact hQ
        refine lp_two42 (E := E) (d := d) (k := k) (h := h) (r := r) (l := l) (n := n) hs hR a0 a1 b0 b1 ab (fun g7 r7 x7 y7 u7 hu7 hr7 hi7 i7 => ?_) 4 0 g37 r37 (p (19 + 5 * a + 4)) (p (19 + 5 * b + 4)) none rfl ⟨bad, by have : p (19 + 5 * a + 4) ≤ 300 := a300; omega, bbd, by have : p (19 + 5 * b + 4) ≤ 300 := b300; omega⟩ ⟨fun q hq => f37 q (by omega), hQ2, i3, fun z z0 z1 => by omega⟩ (by omega) (by omega)
        refine s_ci ok rfl ?_
        refine s_stI3 ok rfl rfl ?_
        have tf9 : ∀ x : Int, 0 ≤ x → x < 9 → g7 57 x = twZ (fun j => dA (pCh p a b j) (-4) 3 a) x ∧ g7 58 x = twZ (fun j => dA (pCh p a b j) (-4) 3 b) x := fun x x0 x1 => by
          obtain ⟨e1, e2⟩ := hi7.2.2.2 x x0 x1
          unfold twZ
          rw [if_pos ⟨x0, x1⟩, if_pos ⟨x0, x1⟩]
          exact ⟨e1, e2⟩
        have hz9 : ∀ (t x : Int), zb (twZ (fun j => dA (pCh p a b j) (-4) 3 t) x) := fun t x => by
          unfold twZ
          split
          · next q => exact dA_zb (pCh_ok hp a0 (by omega) b0 (by omega) (fun s s0 s1 => hs.2.1 s s0 s1) q.1 q.2) ⟨by omega, by omega⟩
          · exact ⟨by omega, by omega⟩
        have K := lp_two165 (E := E) (d := d) (k := k) (h := g7) (r := r7) (l := l) (n := n) (F9 := (fun s => ∃ g r9, s = zJ (k, g, r9, l, n) ∧ cT2 h g ∧ (∀ q, ¬ q = 16 → r9 q = r q))) tf9 (hz9 a) (hz9 b) ⟨g7, r7, rfl, hi7.1, hi7.2.2.1⟩ (a := a) (b := b) 4 0 u7 hu7 rfl (by omega) (by omega)
        rw [sFst_cg (W := twW (twZ (fun j => dA (pCh p a b j) (-4) 3 a)) (twZ (fun j => dA (pCh p a b j) (-4) 3 b))) (V := twW (fun j => dA (pCh p a b j) (-4) 3 a) (fun j => dA (pCh p a b j) (-4) 3 b)) 9 (fun j j0 j1 => by
          unfold twW
          rw [twC_cg (F := twZ (fun j => dA (pCh p a b j) (-4) 3 a)) (O := twZ (fun j => dA (pCh p a b j) (-4) 3 b)) (F2 := (fun j => dA (pCh p a b j) (-4) 3 a)) (O2 := (fun j => dA (pCh p a b j) (-4) 3 b)) (c := 3) (by omega) j0 j1 (fun x x0 x1 => if_pos ⟨x0, x1⟩) (fun x x0 x1 => if_pos ⟨x0, x1⟩)])] at K
        exact K
