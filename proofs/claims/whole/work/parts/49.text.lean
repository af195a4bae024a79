/-! the text of a day: reading -/
theorem zand255 (v : Int) : (iI v &&& iI 255) = iI (v % 256) := by
  have e : (BitVec.ofInt 32 v &&& BitVec.ofInt 32 255) = BitVec.ofInt 32 (v % 256) := by
    apply BitVec.eq_of_toNat_eq
    rw [BitVec.toNat_and, BitVec.toNat_ofInt, BitVec.toNat_ofInt, BitVec.toNat_ofInt]
    have h255 : ((255 : Int) % ((2 ^ 32 : Nat) : Int)).toNat = 2 ^ 8 - 1 := by decide
    rw [h255, Nat.and_two_pow_sub_one_eq_mod]
    omega
  apply Int32.toBitVec_inj.mp
  exact e
/-- the places of a text: of a row's numbers E and its size; beyond it 0 -/
def tc (E : Int → Int) (sz j : Int) : Int := if 0 ≤ j ∧ j < sz then E j else 0
def hr (E : Int → Int) (sz a : Int) : Int := if a < sz then E a % 256 else -1
theorem hr_c {E : Int → Int} {sz a ch : Int} (hE : ∀ j, 0 ≤ j → j < sz → -128 ≤ E j ∧ E j ≤ 127) (a0 : 0 ≤ a) (c0 : 1 ≤ ch) (c1 : ch ≤ 127) : hr E sz a = ch ↔ tc E sz a = ch := by
  unfold hr tc
  by_cases q : a < sz
  · have := hE a a0 q
    rw [if_pos q, if_pos ⟨a0, q⟩]
    omega
  · rw [if_neg q, if_neg (fun z => q z.2)]
    omega
theorem hr_d {E : Int → Int} {sz a : Int} (hE : ∀ j, 0 ≤ j → j < sz → -128 ≤ E j ∧ E j ≤ 127) (a0 : 0 ≤ a) : ((48 ≤ hr E sz a ∧ hr E sz a ≤ 57) ↔ (48 ≤ tc E sz a ∧ tc E sz a ≤ 57)) ∧ ((48 ≤ hr E sz a ∧ hr E sz a ≤ 57) → hr E sz a = tc E sz a) := by
  unfold hr tc
  by_cases q : a < sz
  · have := hE a a0 q
    rw [if_pos q, if_pos ⟨a0, q⟩]
    omega
  · rw [if_neg q, if_neg (fun z => q z.2)]
    omega
theorem hr_b {E : Int → Int} {sz a : Int} : -1 ≤ hr E sz a ∧ hr E sz a ≤ 255 := by
  unfold hr
  split <;> omega
/-- the shelf's row is a text -/
def tX (h : Nat → Int → Int) (a0 sz : Int) (E : Int → Int) : Prop := (h 59 21 = a0 ∧ h 59 22 = sz) ∧ (0 ≤ a0 ∧ a0 ≤ 700) ∧ (0 ≤ sz ∧ sz ≤ 100) ∧ (∀ j, 0 ≤ j → j < sz → h 85 (a0 + j) = E j) ∧ ∀ j, 0 ≤ j → j < sz → -128 ≤ E j ∧ E j ≤ 127
/-- only the place and the numbers read differ -/
def tY (h g : Nat → Int → Int) : Prop := (∀ n, ¬ n = 59 → ¬ n = 76 → g n = h n) ∧ ∀ j, ¬ j = 20 → g 59 j = h 59 j
theorem tY.rf {h : Nat → Int → Int} : tY h h := ⟨fun _ _ _ => rfl, fun _ _ => rfl⟩
theorem tY.tr {h g f : Nat → Int → Int} (a : tY h g) (b : tY g f) : tY h f := ⟨fun n h1 h2 => (b.1 n h1 h2).trans (a.1 n h1 h2), fun j hj => (b.2 j hj).trans (a.2 j hj)⟩
theorem tY.st {h g : Nat → Int → Int} {v : Int} (a : tY h g) : tY h (zv g 59 20 v) := ⟨fun n h1 h2 => (zv_other h1).trans (a.1 n h1 h2), fun j hj => (zv_at hj).trans (a.2 j hj)⟩
theorem tY.sn {h g : Nat → Int → Int} {j v : Int} (a : tY h g) : tY h (zv g 76 j v) := ⟨fun n h1 h2 => (zv_other h2).trans (a.1 n h1 h2), fun i hi => (congrFun (zv_other (by omega)) i).trans (a.2 i hi)⟩
theorem tX.y {h g : Nat → Int → Int} {a0 sz : Int} {E : Int → Int} (x : tX h a0 sz E) (y : tY h g) : tX g a0 sz E := by
  obtain ⟨⟨x1, x2⟩, x3, x4, x5, x6⟩ := x
  exact ⟨⟨(y.2 21 (by omega)).trans x1, (y.2 22 (by omega)).trans x2⟩, x3, x4, fun j j0 j1 => by rw [y.1 85 (by omega) (by omega)]; exact x5 j j0 j1, x6⟩
theorem ct_here {E : zE} {d : Nat} {k : Nat → Nat × Nat} {h : Nat → Int → Int} {r : Nat → Int → Option Nat} {l : Nat → Nat → Int64} {n : Nat} {a0 sz a : Int} {X : Int → Int} (hX : tX h a0 sz X) (ha : h 59 20 = a) (z0 : 0 ≤ a) (z1 : a ≤ 300) : zCT E d M_X12_here [.ref 59] (zJ (k, h, r, l, n)) 0 0 (zV (.int (iI (hr X sz a))) (zJ (k, h, r, l, n))) := by
  have ok := ok_X12_here
  refine zCT_of pn_X12_here (Nat.le_of_ble_eq_true rfl) ?_
  show zGo _ _ _ _ _ _ 0 ([some (.ref 59)], [], _, _, _)
  obtain ⟨⟨x1, x2⟩, x3, x4, x5, x6⟩ := hX
  refine s_ldA0 ok rfl ?_
  refine s_getJ 20 ok rfl rfl rfl rfl ?_
  refine s_ldA0 ok rfl ?_
  refine s_getJ 22 ok rfl rfl rfl rfl ?_
  rw [ha, x2]
  refine s_c_ge ok rfl (by first | exact hb _ _ | exact ⟨by omega, by omega⟩) (by first | exact hb _ _ | exact ⟨by omega, by omega⟩) (fun c8 => ?_) (fun c8 => ?_)
  · refine s_ci ok rfl ?_
    refine s_retI ok rfl ⟨congrArg (fun z => some (Value.int (iI z))) (by unfold hr; first | rw [if_pos c8] | rw [if_neg (by omega)]), rfl⟩
  · refine s_ldA0 ok rfl ?_
    refine s_getF ok rfl rfl rfl rfl ?_
    refine s_ldA0 ok rfl ?_
    refine s_getJ 21 ok rfl rfl rfl rfl ?_
    refine s_ldA0 ok rfl ?_
    refine s_getJ 20 ok rfl rfl rfl rfl ?_
    refine s_add ok rfl ?_
    rw [x1, ha]
    refine s_iald ok rfl (by exact rfl) (by exact rfl) (by omega) (by omega) ?_
    rw [x5 a z0 c8]
    refine s_ci ok rfl ?_
    refine s_bin ok rfl (zand255 _) ?_
    refine s_goto ok rfl ?_
    refine s_retI ok rfl ⟨congrArg (fun z => some (Value.int (iI z))) (by unfold hr; first | rw [if_pos c8] | rw [if_neg (by omega)]), rfl⟩
/-- no digit stands j places behind a -/
def nd (X : Int → Int) (a j : Int) : Bool := decide (¬ (48 ≤ X (a + j) ∧ X (a + j) ≤ 57))
/-- the number that c digits from a on tell -/
def nm (X : Int → Int) (a : Int) : Nat → Int
  | 0 => 0
  | c + 1 => 10 * nm X a c + X (a + (c : Int)) - 48
theorem nm_in {X : Int → Int} {a : Int} : ∀ c : Nat, sFst (nd X a) c = c → 0 ≤ nm X a c ∧ nm X a c < ((10 ^ c : Nat) : Int)
  | 0, _ => ⟨Int.le_refl _, by show (0 : Int) < 1; omega⟩
  | c + 1, hc => by
    have hs : sFst (nd X a) (c + 1) = if sFst (nd X a) c < c then sFst (nd X a) c else if nd X a c = true then (c : Int) else (c : Int) + 1 := rfl
    rw [hs] at hc
    split at hc
    · omega
    · rename_i q
      split at hc
      · omega
      · rename_i q2
        have l := (sFst_in (W := nd X a) c).2
        have i := nm_in (X := X) (a := a) c (by omega)
        have d : 48 ≤ X (a + (c : Int)) ∧ X (a + (c : Int)) ≤ 57 := Classical.byContradiction fun z => q2 (decide_eq_true z)
        unfold nm
        rw [Nat.pow_succ]
        omega
theorem lp_rn {E : zE} {d : Nat} {k : Nat → Nat × Nat} {h : Nat → Int → Int} {r : Nat → Int → Option Nat} {l : Nat → Nat → Int64} {n : Nat} {Q : zQ} {a0 sz a : Int} {X : Int → Int} (hX : tX h a0 sz X) (ha : h 59 20 = a) (z0 : 0 ≤ a) (z1 : a ≤ 300) {k9 : Int} {dg : Nat} (k0 : 0 ≤ k9) (k1 : k9 < 5) (d3 : dg ≤ 3) (z2 : a ≤ 200) (hQ : ∀ g, tY h g ∧ (∀ j, ¬ j = k9 → g 76 j = h 76 j) ∧ g 59 20 = a + sFst (nd (tc X sz) a) dg ∧ g 76 k9 = nm (tc X sz) a (sFst (nd (tc X sz) a) dg).toNat → Q (some (.int (iI (if sFst (nd (tc X sz) a) dg = dg then 1 else 0)))) (zJ (k, g, r, l, n))) : ∀ c : Nat, ∀ (m : Nat) (g : Nat → Int → Int), tY h g ∧ (∀ j, ¬ j = k9 → g 76 j = h 76 j) → g 59 20 = a + m → g 76 k9 = nm (tc X sz) a m → sFst (nd (tc X sz) a) m = m → dg < m + c → m ≤ dg → zGo E (d + 2) M_X12_readsNumber 0 0 Q 9 ([some (.ref 59), some (.int (iI (k9))), some (.int (iI ((dg : Int)))), some (.int (iI ((m : Int))))], [], zJ (k, g, r, l, n), 0, 0) := by
  have ok := ok_X12_readsNumber
  intro c
  induction c with
  | zero =>
    intros
    omega
  | succ c ih =>
    intro m g y yg yn hm g1 g2
    have xg := hX.y y.1
    have e3 : sFst (nd (tc X sz) a) (m + 1) = if sFst (nd (tc X sz) a) m < m then sFst (nd (tc X sz) a) m else if (nd (tc X sz) a) m = true then (m : Int) else (m : Int) + 1 := rfl
    rw [if_neg (by omega)] at e3
    have fx := fun q => sFst_fix (W := (nd (tc X sz) a)) (c := m + 1) q (dg - (m + 1))
    obtain ⟨hd1, hd2⟩ := hr_d (E := X) (sz := sz) (a := a + (m : Int)) hX.2.2.2.2 (by omega)
    have nin := nm_in (X := tc X sz) (a := a) m hm
    have p10 : ((10 ^ m : Nat) : Int) ≤ 1000 := by
      have := Nat.pow_le_pow_right (n := 10) (by omega) (show m ≤ 3 by omega)
      omega
    have hb9 := hr_b (E := X) (sz := sz) (a := a + (m : Int))
    refine s_ldI3 ok rfl ?_
    refine s_ldI2 ok rfl ?_
    refine s_c_ge ok rfl ⟨by omega, by omega⟩ ⟨by omega, by omega⟩ (fun c11 => ?_) (fun c11 => ?_)
    · refine s_ci ok rfl ?_
      refine s_retZ ok rfl (by first | exact Or.inl rfl | exact Or.inr rfl) (by have em : dg = m := (by omega); have z := hQ g; rw [em, hm, if_pos rfl] at z; exact z ⟨y.1, y.2, yg, yn⟩)
    · refine s_ldA0 ok rfl ?_
      refine s_callV ok rfl rfl rfl rfl rfl rfl (ct_here xg yg (by omega) (by omega)) ?_
      refine s_ci ok rfl ?_
      refine s_ci ok rfl ?_
      refine s_callS ok rfl rfl rfl rfl (ct_isIn (by have := hr_b (E := X) (sz := sz) (a := a + (m : Int)); exact ⟨by omega, by omega⟩) ⟨by omega, by omega⟩ ⟨by omega, by omega⟩) ?_
      refine s_if_eq ok rfl zif01 (fun c25 => ?_) (fun c25 => ?_)
      · refine s_ci ok rfl ?_
        refine s_retZ ok rfl (by first | exact Or.inl rfl | exact Or.inr rfl) (by have ew : (nd (tc X sz) a) m = true := decide_eq_true (fun q => zif_f c25 (hd1.mpr q)); rw [if_pos ew] at e3; have z := hQ g; rw [show dg = m + 1 + (dg - (m + 1)) by omega, fx (by omega), e3, if_neg (by omega)] at z; exact z ⟨y.1, y.2, yg, yn⟩)
      · have yt := zif_t c25
        have yx := hd2 yt
        have yd := hd1.mp yt
        refine s_ldA0 ok rfl ?_
        refine s_getF ok rfl rfl rfl rfl ?_
        refine s_ldI1 ok rfl ?_
        refine s_ci ok rfl ?_
        refine s_ldA0 ok rfl ?_
        refine s_getF ok rfl rfl rfl rfl ?_
        refine s_ldI1 ok rfl ?_
        refine s_iald ok rfl (by exact rfl) (by exact rfl) (by omega) (by omega) ?_
        rw [yn]
        refine s_mul ok rfl ?_
        refine s_ldA0 ok rfl ?_
        refine s_callV ok rfl rfl rfl rfl rfl rfl (ct_here xg yg (by omega) (by omega)) ?_
        refine s_add ok rfl ?_
        refine s_ci ok rfl ?_
        refine s_sub ok rfl ?_
        refine s_iast ok rfl (by exact rfl) (by exact rfl) (by omega) (by omega) (fun q => by cases q) ?_
        refine s_ldA0 ok rfl ?_
        refine s_dupA ok rfl ?_
        refine s_getJ 20 ok rfl rfl rfl rfl ?_
        rw [show zv g 76 k9 (10 * nm (tc X sz) a m + hr X sz (a + (m : Int)) - 48) 59 20 = a + (m : Int) from (congrFun (zv_other (by omega)) 20).trans yg]
        refine s_ci ok rfl ?_
        refine s_add ok rfl ?_
        refine s_putJ 20 ok rfl rfl rfl rfl (fun q => by cases q) ?_
        refine s_inc3 ok rfl rfl ?_
        refine s_goto ok rfl ?_
        have ew : ¬ (nd (tc X sz) a) m = true := fun q => of_decide_eq_true q yd
        rw [if_neg ew] at e3
        rw [yx]
        refine ih (m + 1) _ ⟨(y.1.sn).st, fun j hj => ?_⟩ ?_ ?_ (by rw [e3]; omega) (by omega) (by omega)
        · rw [zv_other (by omega), zv_at hj]
          exact y.2 j hj
        · rw [zv_is]; omega
        · rw [zv_other (by omega), zv_is]
          rfl
theorem ct_readsNumber {E : zE} {d : Nat} {k : Nat → Nat × Nat} {h : Nat → Int → Int} {r : Nat → Int → Option Nat} {l : Nat → Nat → Int64} {n : Nat} {a0 sz a : Int} {X : Int → Int} (hX : tX h a0 sz X) (ha : h 59 20 = a) (z0 : 0 ≤ a) (z1 : a ≤ 300) {k9 : Int} {dg : Nat} (k0 : 0 ≤ k9) (k1 : k9 < 5) (d3 : dg ≤ 3) (z2 : a ≤ 200) : zCT E (d + 2) M_X12_readsNumber [.ref 59, .int (iI (k9)), .int (iI ((dg : Int)))] (zJ (k, h, r, l, n)) 0 0 (zVx (.int (iI (if sFst (nd (tc X sz) a) dg = dg then 1 else 0))) (zG k r l n (fun g => tY h g ∧ (∀ j, ¬ j = k9 → g 76 j = h 76 j) ∧ g 59 20 = a + sFst (nd (tc X sz) a) dg ∧ g 76 k9 = nm (tc X sz) a (sFst (nd (tc X sz) a) dg).toNat))) := by
  have ok := ok_X12_readsNumber
  refine zCT_of pn_X12_readsNumber (Nat.le_of_ble_eq_true rfl) ?_
  show zGo _ _ _ _ _ _ 0 ([some (.ref 59), some (.int (iI (k9))), some (.int (iI ((dg : Int)))), none], [], _, _, _)
  refine s_ldA0 ok rfl ?_
  refine s_getF ok rfl rfl rfl rfl ?_
  refine s_ldI1 ok rfl ?_
  refine s_ci ok rfl ?_
  refine s_iast ok rfl (by exact rfl) (by exact rfl) (by omega) (by omega) (fun q => by cases q) ?_
  refine s_ci ok rfl ?_
  refine s_stI3 ok rfl rfl ?_
  refine lp_rn (E := E) (d := d) (k := k) (r := r) (l := l) (n := n) (h := h) hX ha z0 z1 k0 k1 d3 z2 (fun g hg => ⟨rfl, g, rfl, hg⟩) (dg + 1) 0 _ ⟨tY.rf.sn, fun j hj => zv_at hj⟩ ?_ ?_ rfl (by omega) (by omega)
  · rw [zv_other (by omega)]; omega
  · rw [zv_is]; rfl
