/-! the text of a day: a statement -/
/-- how many digits stand behind a letter; the first bad place of the statement at a, or -1 -/
def dgs (c : Int) : Nat := if c = 114 then 3 else if c = 116 then 4 else if c = 112 then 7 else if c = 108 ∨ c = 103 then 2 else if c = 115 ∨ c = 104 ∨ c = 120 then 1 else 0
def fB1 (X : Int → Int) (a : Int) : Int := if dgs (X a) = 0 then a else if sFst (nd X (a + 1)) (dgs (X a)) < dgs (X a) then a + 1 + sFst (nd X (a + 1)) (dgs (X a)) else if X (a + 1 + dgs (X a)) = 59 then -1 else a + 1 + dgs (X a)
/-- the numbers of the statement at a; how many -/
def nN (X : Int → Int) (a i : Int) : Int := if X a = 114 then (if i = 0 then nm X (a + 1) 1 else nm X (a + 1 + 1) 2) else if X a = 116 then (if i = 0 then nm X (a + 1) 3 else nm X (a + 1 + 3) 1) else if X a = 112 then (if i = 4 then nm X (a + 1 + 4) 3 else nm X (a + 1 + i) 1) else if X a = 108 ∨ X a = 103 then nm X (a + 1) 2 else nm X (a + 1) 1
def kN (c : Int) : Int := if c = 114 ∨ c = 116 then 2 else if c = 112 then 5 else 1
theorem sFst_s {W : Int → Bool} {c : Nat} : sFst W (c + 1) = if sFst W c < c then sFst W c else if W c = true then (c : Int) else (c : Int) + 1 := rfl
theorem sFst_add {W : Int → Bool} {m : Nat} (hm : sFst W m = m) : ∀ c : Nat, sFst W (m + c) = m + sFst (fun j => W ((m : Int) + j)) c
  | 0 => by show sFst W m = m + 0; omega
  | c + 1 => by
    have i := sFst_add hm c
    have e : sFst W (m + (c + 1)) = if sFst W (m + c) < ((m + c : Nat) : Int) then sFst W (m + c) else if W ((m + c : Nat) : Int) = true then ((m + c : Nat) : Int) else ((m + c : Nat) : Int) + 1 := rfl
    rw [e, i, sFst_s, show ((m + c : Nat) : Int) = (m : Int) + (c : Int) by omega]
    by_cases q : sFst (fun j => W ((m : Int) + j)) c < c
    · rw [if_pos q, if_pos (by omega)]
    · rw [if_neg q, if_neg (by omega)]
      by_cases q2 : W ((m : Int) + (c : Int)) = true
      · rw [if_pos q2, if_pos q2]
      · rw [if_neg q2, if_neg q2]
        omega
theorem nd_add {X : Int → Int} {b : Int} {m : Nat} (hm : sFst (nd X b) m = m) (c : Nat) : sFst (nd X b) (m + c) = m + sFst (nd X (b + m)) c := by
  rw [sFst_add hm c]
  congr 1
  refine sFst_cg c (fun j _ _ => ?_)
  unfold nd
  rw [show b + ((m : Int) + j) = b + (m : Int) + j by omega]
theorem nd_f {X : Int → Int} {b : Int} {m dg t : Nat} (hm : sFst (nd X b) m = m) (hq : ¬ sFst (nd X (b + m)) dg = dg) (hn : m + dg ≤ t) : sFst (nd X b) t = m + sFst (nd X (b + m)) dg ∧ sFst (nd X b) t < t := by
  have l := (sFst_in (W := nd X (b + m)) dg)
  have e := nd_add hm dg
  have f := sFst_fix (W := nd X b) (c := m + dg) (by omega) (t - (m + dg))
  rw [show m + dg + (t - (m + dg)) = t by omega] at f
  omega
theorem nd_g {X : Int → Int} {b : Int} {m dg : Nat} (hm : sFst (nd X b) m = m) (hq : sFst (nd X (b + m)) dg = dg) : sFst (nd X b) (m + dg) = ((m + dg : Nat) : Int) := by
  rw [nd_add hm dg, hq]
  omega
theorem rs_q0 {k : Nat → Nat × Nat} {h g : Nat → Int → Int} {r : Nat → Int → Option Nat} {l : Nat → Nat → Int64} {n : Nat} {sz a : Int} {X : Int → Int} {t : Nat} (a0 : 0 ≤ a) (y : tY h g) (ht : dgs ((tc X sz) a) = t) {q : Int} (hq : sFst (nd (tc X sz) (a + 1)) t = q) (q1 : q < t) (hp : g 59 20 = a + 1 + q) : zVx (.int (iI (if fB1 (tc X sz) a = -1 then 1 else 0))) (zG k r l n (fun g => tY h g ∧ g 59 20 = (if fB1 (tc X sz) a = -1 then a + dgs (tc X sz a) + 2 else fB1 (tc X sz) a) ∧ (fB1 (tc X sz) a = -1 → ∀ i, 0 ≤ i → i < kN (tc X sz a) → g 76 i = nN (tc X sz) a i))) (some (.int (iI 0))) (zJ (k, g, r, l, n)) := by
  have l := (sFst_in (W := nd (tc X sz) (a + 1)) t)
  have e : fB1 (tc X sz) a = a + 1 + q := by
    unfold fB1
    rw [ht, if_neg (by omega), hq, if_pos q1]
  rw [e, if_neg (by omega), if_neg (by omega)]
  exact ⟨rfl, g, rfl, y, hp, fun z => by omega⟩
theorem rs_q0a {k : Nat → Nat × Nat} {h g : Nat → Int → Int} {r : Nat → Int → Option Nat} {l : Nat → Nat → Int64} {n : Nat} {sz a : Int} {X : Int → Int} {t : Nat} (a0 : 0 ≤ a) (y : tY h g) (ht : dgs ((tc X sz) a) = 0) (hp : g 59 20 = a) : zVx (.int (iI (if fB1 (tc X sz) a = -1 then 1 else 0))) (zG k r l n (fun g => tY h g ∧ g 59 20 = (if fB1 (tc X sz) a = -1 then a + dgs (tc X sz a) + 2 else fB1 (tc X sz) a) ∧ (fB1 (tc X sz) a = -1 → ∀ i, 0 ≤ i → i < kN (tc X sz a) → g 76 i = nN (tc X sz) a i))) (some (.int (iI 0))) (zJ (k, g, r, l, n)) := by
  have e : fB1 (tc X sz) a = a := by
    unfold fB1
    rw [if_pos ht]
  rw [e, if_neg (by omega), if_neg (by omega)]
  exact ⟨rfl, g, rfl, y, hp, fun z => by omega⟩
theorem rs_q0b {k : Nat → Nat × Nat} {h g : Nat → Int → Int} {r : Nat → Int → Option Nat} {l : Nat → Nat → Int64} {n : Nat} {sz a : Int} {X : Int → Int} {t : Nat} (a0 : 0 ≤ a) (y : tY h g) (ht : dgs ((tc X sz) a) = t) (t0 : 0 < t) (hq : sFst (nd (tc X sz) (a + 1)) t = t) (hc : ¬ (tc X sz) (a + 1 + t) = 59) (hp : g 59 20 = a + 1 + t) : zVx (.int (iI (if fB1 (tc X sz) a = -1 then 1 else 0))) (zG k r l n (fun g => tY h g ∧ g 59 20 = (if fB1 (tc X sz) a = -1 then a + dgs (tc X sz a) + 2 else fB1 (tc X sz) a) ∧ (fB1 (tc X sz) a = -1 → ∀ i, 0 ≤ i → i < kN (tc X sz a) → g 76 i = nN (tc X sz) a i))) (some (.int (iI 0))) (zJ (k, g, r, l, n)) := by
  have e : fB1 (tc X sz) a = a + 1 + t := by
    unfold fB1
    rw [ht, if_neg (by omega), hq, if_neg (by omega), if_neg hc]
  rw [e, if_neg (by omega), if_neg (by omega)]
  exact ⟨rfl, g, rfl, y, hp, fun z => by omega⟩
theorem rs_q1 {k : Nat → Nat × Nat} {h g : Nat → Int → Int} {r : Nat → Int → Option Nat} {l : Nat → Nat → Int64} {n : Nat} {sz a : Int} {X : Int → Int} {t : Nat} (a0 : 0 ≤ a) (y : tY h g) (ht : dgs ((tc X sz) a) = t) (t0 : 0 < t) (hq : sFst (nd (tc X sz) (a + 1)) t = t) (hc : (tc X sz) (a + 1 + t) = 59) (hp : g 59 20 = a + 1 + t + 1) (hN : ∀ i, 0 ≤ i → i < kN ((tc X sz) a) → g 76 i = nN (tc X sz) a i) : zVx (.int (iI (if fB1 (tc X sz) a = -1 then 1 else 0))) (zG k r l n (fun g => tY h g ∧ g 59 20 = (if fB1 (tc X sz) a = -1 then a + dgs (tc X sz a) + 2 else fB1 (tc X sz) a) ∧ (fB1 (tc X sz) a = -1 → ∀ i, 0 ≤ i → i < kN (tc X sz a) → g 76 i = nN (tc X sz) a i))) (some (.int (iI 1))) (zJ (k, g, r, l, n)) := by
  have e : fB1 (tc X sz) a = -1 := by
    unfold fB1
    rw [ht, if_neg (by omega), hq, if_neg (by omega), if_pos hc]
  rw [e, if_pos rfl, if_pos rfl]
  exact ⟨rfl, g, rfl, y, by rw [ht]; omega, fun _ => hN⟩
theorem lp_rs0 {E : zE} {d : Nat} {k : Nat → Nat × Nat} {h : Nat → Int → Int} {r : Nat → Int → Option Nat} {l : Nat → Nat → Int64} {n : Nat} {Q : zQ} {u : Option Value} (hQ : Q (some (.int (iI 0))) (zJ (k, h, r, l, n))) : zGo E (d + 3) M_X12_readsStatement 0 0 Q 244 ([some (.ref 59), u, some (.int (iI 0))], [], zJ (k, h, r, l, n), 0, 0) := by
  have ok := ok_X12_readsStatement
  refine s_ldI2 ok rfl ?_
  refine s_if_eq ok rfl ⟨by omega, by omega⟩ (fun c245 => ?_) (fun c245 => ?_)
  · refine s_ci ok rfl ?_
    refine s_retZ ok rfl (by first | exact Or.inl rfl | exact Or.inr rfl) hQ
  · exact absurd rfl c245
theorem lp_rs1 {E : zE} {d : Nat} {k : Nat → Nat × Nat} {h : Nat → Int → Int} {r : Nat → Int → Option Nat} {l : Nat → Nat → Int64} {n : Nat} {Q : zQ} {u : Option Value} {a0 sz a : Int} {X : Int → Int} (hX : tX h a0 sz X) (ha : h 59 20 = a) (z0 : 0 ≤ a) (z1 : a ≤ 300) (h0 : ¬ (tc X sz) a = 59 → Q (some (.int (iI 0))) (zJ (k, h, r, l, n))) (h1 : (tc X sz) a = 59 → Q (some (.int (iI 1))) (zJ (k, zv h 59 20 (a + 1), r, l, n))) : zGo E (d + 3) M_X12_readsStatement 0 0 Q 244 ([some (.ref 59), u, some (.int (iI 1))], [], zJ (k, h, r, l, n), 0, 0) := by
  have ok := ok_X12_readsStatement
  refine s_ldI2 ok rfl ?_
  refine s_if_eq ok rfl ⟨by omega, by omega⟩ (fun c245 => ?_) (fun c245 => ?_)
  · refine s_ci ok rfl ?_
    refine s_retZ ok rfl (by first | exact Or.inl rfl | exact Or.inr rfl) (by first | exact h0 (fun q => c254 ((hr_c hX.2.2.2.2 z0 (by omega) (by omega)).mpr q)) | exact absurd c245 (by omega))
  · refine s_ldA0 ok rfl ?_
    refine s_callV ok rfl rfl rfl rfl rfl rfl (ct_here hX ha z0 z1) ?_
    refine s_ci ok rfl ?_
    refine s_c_eq ok rfl (by have := hr_b (E := X) (sz := sz) (a := a); exact ⟨by omega, by omega⟩) ⟨by omega, by omega⟩ (fun c254 => ?_) (fun c254 => ?_)
    · refine s_ldA0 ok rfl ?_
      refine s_dupA ok rfl ?_
      refine s_getJ 20 ok rfl rfl rfl rfl ?_
      rw [ha]
      refine s_ci ok rfl ?_
      refine s_add ok rfl ?_
      refine s_putJ 20 ok rfl rfl rfl rfl (fun q => by cases q) ?_
      refine s_ci ok rfl ?_
      refine s_retZ ok rfl (by first | exact Or.inl rfl | exact Or.inr rfl) (h1 ((hr_c hX.2.2.2.2 z0 (by omega) (by omega)).mp c254))
    · refine s_ci ok rfl ?_
      refine s_retZ ok rfl (by first | exact Or.inl rfl | exact Or.inr rfl) (by first | exact h0 (fun q => c254 ((hr_c hX.2.2.2.2 z0 (by omega) (by omega)).mpr q)) | exact absurd c245 (by omega))
theorem rs_r {E : zE} {d : Nat} {k : Nat → Nat × Nat} {h : Nat → Int → Int} {r : Nat → Int → Option Nat} {l : Nat → Nat → Int64} {n : Nat} {a0 sz a : Int} {X : Int → Int} (hX : tX h a0 sz X) (z0 : 0 ≤ a) (z1 : a ≤ 150) (hd : dgs ((tc X sz) a) = 3) (hc : (tc X sz) a = 114) {u : Option Value} {c9 : Int32} : zGo E (d + 3) M_X12_readsStatement 0 0 (zVx (.int (iI (if fB1 (tc X sz) a = -1 then 1 else 0))) (zG k r l n (fun g => tY h g ∧ g 59 20 = (if fB1 (tc X sz) a = -1 then a + dgs (tc X sz a) + 2 else fB1 (tc X sz) a) ∧ (fB1 (tc X sz) a = -1 → ∀ i, 0 ≤ i → i < kN (tc X sz a) → g 76 i = nN (tc X sz) a i)))) 104 ([some (.ref 59), some (.int c9), u], [], zJ (k, zv h 59 20 (a + 1), r, l, n), 0, 0) := by
  have ok := ok_X12_readsStatement
  have Y0 : tY h (zv h 59 20 (a + 1)) := tY.rf.st
  have P0 : zv h 59 20 (a + 1) 59 20 = a + 1 + ((0 : Nat) : Int) := by rw [zv_is]; omega
  have T0 : sFst (nd (tc X sz) (a + 1)) 0 = ((0 : Nat) : Int) := rfl
  have hk : kN ((tc X sz) a) = 2 := by unfold kN; (repeat (first | rw [if_pos (by omega)] | rw [if_neg (by omega)]))
  refine s_ldA0 ok rfl ?_
  refine s_ci ok rfl ?_
  refine s_ci ok rfl ?_
  refine s_callVx ok rfl rfl rfl rfl rfl rfl (ct_readsNumber (h := (zv h 59 20 (a + 1))) (hX.y Y0) P0 (by omega) (by omega) (k9 := 0) (dg := 1) (by omega) (by omega) (by omega) (by omega)) (fun σ107 hσ107 => ?_)
  obtain ⟨g107, rfl, hg107⟩ := hσ107
  obtain ⟨y107, o107, p107, v107⟩ := hg107
  have Y107 := Y0.tr y107
  have l107 := sFst_in (W := nd (tc X sz) (a + 1 + ((0 : Nat) : Int))) 1
  refine s_if_eq ok rfl (by first | exact hb _ _ | exact ⟨by omega, by omega⟩) (fun c110 => ?_) (fun c110 => ?_)
  · refine s_ci ok rfl ?_
    refine s_stI2 ok rfl rfl ?_
    refine s_goto ok rfl ?_
    exact (by obtain ⟨f1, f2⟩ := nd_f (m := 0) (dg := 1) (t := 3) T0 (zif_f c110) (by omega); exact lp_rs0 (rs_q0 (t := 3) z0 Y107 hd rfl f2 (by omega)))
  · have s107 : sFst (nd (tc X sz) (a + 1 + ((0 : Nat) : Int))) 1 = 1 := zif_t c110
    have T107 : sFst (nd (tc X sz) (a + 1)) 1 = ((1 : Nat) : Int) := nd_g (m := 0) (dg := 1) T0 s107
    have P107 : g107 59 20 = a + 1 + ((1 : Nat) : Int) := by omega
    refine s_ldA0 ok rfl ?_
    refine s_ci ok rfl ?_
    refine s_ci ok rfl ?_
    refine s_callVx ok rfl rfl rfl rfl rfl rfl (ct_readsNumber (h := g107) (hX.y Y107) P107 (by omega) (by omega) (k9 := 1) (dg := 2) (by omega) (by omega) (by omega) (by omega)) (fun σ116 hσ116 => ?_)
    obtain ⟨g116, rfl, hg116⟩ := hσ116
    obtain ⟨y116, o116, p116, v116⟩ := hg116
    have Y116 := Y107.tr y116
    have l116 := sFst_in (W := nd (tc X sz) (a + 1 + ((1 : Nat) : Int))) 2
    refine s_if_eq ok rfl (by first | exact hb _ _ | exact ⟨by omega, by omega⟩) (fun c119 => ?_) (fun c119 => ?_)
    · refine s_ci ok rfl ?_
      refine s_stI2 ok rfl rfl ?_
      refine s_goto ok rfl ?_
      exact (by obtain ⟨f1, f2⟩ := nd_f (m := 1) (dg := 2) (t := 3) T107 (zif_f c119) (by omega); exact lp_rs0 (rs_q0 (t := 3) z0 Y116 hd rfl f2 (by omega)))
    · have s116 : sFst (nd (tc X sz) (a + 1 + ((1 : Nat) : Int))) 2 = 2 := zif_t c119
      have T116 : sFst (nd (tc X sz) (a + 1)) 3 = ((3 : Nat) : Int) := nd_g (m := 1) (dg := 2) T107 s116
      have P116 : g116 59 20 = a + 1 + ((3 : Nat) : Int) := by omega
      refine s_ci ok rfl ?_
      refine s_goto ok rfl ?_
      refine s_stI2 ok rfl rfl ?_
      refine s_goto ok rfl ?_
      have N0 : g116 76 0 = nm (tc X sz) (a + 1 + ((0 : Nat) : Int)) 1 := by rw [o116 0 (by omega), v107, s107]; rfl
      have N1 : g116 76 1 = nm (tc X sz) (a + 1 + ((1 : Nat) : Int)) 2 := by rw [v116, s116]; rfl
      refine lp_rs1 (hX.y Y116) P116 (by omega) (by omega) (fun hc => rs_q0b (t := 3) z0 Y116 hd (by omega) T116 hc P116) (fun hc => rs_q1 (t := 3) z0 Y116.st hd (by omega) T116 hc (zv_is) (fun i i0 i1 => ?_))
      rw [hk] at i1
      rcases (by omega : i = 0 ∨ i = 1) with e | e
      · rw [e, zv_other (by omega), N0]
        unfold nN
        (repeat (first | rw [if_pos (by omega)] | rw [if_neg (by omega)]))
        try rfl
        try (congr 1; omega)
      · rw [e, zv_other (by omega), N1]
        unfold nN
        (repeat (first | rw [if_pos (by omega)] | rw [if_neg (by omega)]))
        try rfl
        try (congr 1; omega)
theorem rs_t {E : zE} {d : Nat} {k : Nat → Nat × Nat} {h : Nat → Int → Int} {r : Nat → Int → Option Nat} {l : Nat → Nat → Int64} {n : Nat} {a0 sz a : Int} {X : Int → Int} (hX : tX h a0 sz X) (z0 : 0 ≤ a) (z1 : a ≤ 150) (hd : dgs ((tc X sz) a) = 4) (hc : (tc X sz) a = 116) {u : Option Value} {c9 : Int32} : zGo E (d + 3) M_X12_readsStatement 0 0 (zVx (.int (iI (if fB1 (tc X sz) a = -1 then 1 else 0))) (zG k r l n (fun g => tY h g ∧ g 59 20 = (if fB1 (tc X sz) a = -1 then a + dgs (tc X sz a) + 2 else fB1 (tc X sz) a) ∧ (fB1 (tc X sz) a = -1 → ∀ i, 0 ≤ i → i < kN (tc X sz a) → g 76 i = nN (tc X sz) a i)))) 131 ([some (.ref 59), some (.int c9), u], [], zJ (k, zv h 59 20 (a + 1), r, l, n), 0, 0) := by
  have ok := ok_X12_readsStatement
  have Y0 : tY h (zv h 59 20 (a + 1)) := tY.rf.st
  have P0 : zv h 59 20 (a + 1) 59 20 = a + 1 + ((0 : Nat) : Int) := by rw [zv_is]; omega
  have T0 : sFst (nd (tc X sz) (a + 1)) 0 = ((0 : Nat) : Int) := rfl
  have hk : kN ((tc X sz) a) = 2 := by unfold kN; (repeat (first | rw [if_pos (by omega)] | rw [if_neg (by omega)]))
  refine s_ldA0 ok rfl ?_
  refine s_ci ok rfl ?_
  refine s_ci ok rfl ?_
  refine s_callVx ok rfl rfl rfl rfl rfl rfl (ct_readsNumber (h := (zv h 59 20 (a + 1))) (hX.y Y0) P0 (by omega) (by omega) (k9 := 0) (dg := 3) (by omega) (by omega) (by omega) (by omega)) (fun σ134 hσ134 => ?_)
  obtain ⟨g134, rfl, hg134⟩ := hσ134
  obtain ⟨y134, o134, p134, v134⟩ := hg134
  have Y134 := Y0.tr y134
  have l134 := sFst_in (W := nd (tc X sz) (a + 1 + ((0 : Nat) : Int))) 3
  refine s_if_eq ok rfl (by first | exact hb _ _ | exact ⟨by omega, by omega⟩) (fun c137 => ?_) (fun c137 => ?_)
  · refine s_ci ok rfl ?_
    refine s_stI2 ok rfl rfl ?_
    refine s_goto ok rfl ?_
    exact (by obtain ⟨f1, f2⟩ := nd_f (m := 0) (dg := 3) (t := 4) T0 (zif_f c137) (by omega); exact lp_rs0 (rs_q0 (t := 4) z0 Y134 hd rfl f2 (by omega)))
  · have s134 : sFst (nd (tc X sz) (a + 1 + ((0 : Nat) : Int))) 3 = 3 := zif_t c137
    have T134 : sFst (nd (tc X sz) (a + 1)) 3 = ((3 : Nat) : Int) := nd_g (m := 0) (dg := 3) T0 s134
    have P134 : g134 59 20 = a + 1 + ((3 : Nat) : Int) := by omega
    refine s_ldA0 ok rfl ?_
    refine s_ci ok rfl ?_
    refine s_ci ok rfl ?_
    refine s_callVx ok rfl rfl rfl rfl rfl rfl (ct_readsNumber (h := g134) (hX.y Y134) P134 (by omega) (by omega) (k9 := 1) (dg := 1) (by omega) (by omega) (by omega) (by omega)) (fun σ143 hσ143 => ?_)
    obtain ⟨g143, rfl, hg143⟩ := hσ143
    obtain ⟨y143, o143, p143, v143⟩ := hg143
    have Y143 := Y134.tr y143
    have l143 := sFst_in (W := nd (tc X sz) (a + 1 + ((3 : Nat) : Int))) 1
    refine s_if_eq ok rfl (by first | exact hb _ _ | exact ⟨by omega, by omega⟩) (fun c146 => ?_) (fun c146 => ?_)
    · refine s_ci ok rfl ?_
      refine s_stI2 ok rfl rfl ?_
      refine s_goto ok rfl ?_
      exact (by obtain ⟨f1, f2⟩ := nd_f (m := 3) (dg := 1) (t := 4) T134 (zif_f c146) (by omega); exact lp_rs0 (rs_q0 (t := 4) z0 Y143 hd rfl f2 (by omega)))
    · have s143 : sFst (nd (tc X sz) (a + 1 + ((3 : Nat) : Int))) 1 = 1 := zif_t c146
      have T143 : sFst (nd (tc X sz) (a + 1)) 4 = ((4 : Nat) : Int) := nd_g (m := 3) (dg := 1) T134 s143
      have P143 : g143 59 20 = a + 1 + ((4 : Nat) : Int) := by omega
      refine s_ci ok rfl ?_
      refine s_goto ok rfl ?_
      refine s_stI2 ok rfl rfl ?_
      refine s_goto ok rfl ?_
      have N0 : g143 76 0 = nm (tc X sz) (a + 1 + ((0 : Nat) : Int)) 3 := by rw [o143 0 (by omega), v134, s134]; rfl
      have N1 : g143 76 1 = nm (tc X sz) (a + 1 + ((3 : Nat) : Int)) 1 := by rw [v143, s143]; rfl
      refine lp_rs1 (hX.y Y143) P143 (by omega) (by omega) (fun hc => rs_q0b (t := 4) z0 Y143 hd (by omega) T143 hc P143) (fun hc => rs_q1 (t := 4) z0 Y143.st hd (by omega) T143 hc (zv_is) (fun i i0 i1 => ?_))
      rw [hk] at i1
      rcases (by omega : i = 0 ∨ i = 1) with e | e
      · rw [e, zv_other (by omega), N0]
        unfold nN
        (repeat (first | rw [if_pos (by omega)] | rw [if_neg (by omega)]))
        try rfl
        try (congr 1; omega)
      · rw [e, zv_other (by omega), N1]
        unfold nN
        (repeat (first | rw [if_pos (by omega)] | rw [if_neg (by omega)]))
        try rfl
        try (congr 1; omega)
theorem rs_p {E : zE} {d : Nat} {k : Nat → Nat × Nat} {h : Nat → Int → Int} {r : Nat → Int → Option Nat} {l : Nat → Nat → Int64} {n : Nat} {a0 sz a : Int} {X : Int → Int} (hX : tX h a0 sz X) (z0 : 0 ≤ a) (z1 : a ≤ 150) (hd : dgs ((tc X sz) a) = 7) (hc : (tc X sz) a = 112) {u : Option Value} {c9 : Int32} : zGo E (d + 3) M_X12_readsStatement 0 0 (zVx (.int (iI (if fB1 (tc X sz) a = -1 then 1 else 0))) (zG k r l n (fun g => tY h g ∧ g 59 20 = (if fB1 (tc X sz) a = -1 then a + dgs (tc X sz a) + 2 else fB1 (tc X sz) a) ∧ (fB1 (tc X sz) a = -1 → ∀ i, 0 ≤ i → i < kN (tc X sz a) → g 76 i = nN (tc X sz) a i)))) 158 ([some (.ref 59), some (.int c9), u], [], zJ (k, zv h 59 20 (a + 1), r, l, n), 0, 0) := by
  have ok := ok_X12_readsStatement
  have Y0 : tY h (zv h 59 20 (a + 1)) := tY.rf.st
  have P0 : zv h 59 20 (a + 1) 59 20 = a + 1 + ((0 : Nat) : Int) := by rw [zv_is]; omega
  have T0 : sFst (nd (tc X sz) (a + 1)) 0 = ((0 : Nat) : Int) := rfl
  have hk : kN ((tc X sz) a) = 5 := by unfold kN; (repeat (first | rw [if_pos (by omega)] | rw [if_neg (by omega)]))
  refine s_ldA0 ok rfl ?_
  refine s_ci ok rfl ?_
  refine s_ci ok rfl ?_
  refine s_callVx ok rfl rfl rfl rfl rfl rfl (ct_readsNumber (h := (zv h 59 20 (a + 1))) (hX.y Y0) P0 (by omega) (by omega) (k9 := 0) (dg := 1) (by omega) (by omega) (by omega) (by omega)) (fun σ161 hσ161 => ?_)
  obtain ⟨g161, rfl, hg161⟩ := hσ161
  obtain ⟨y161, o161, p161, v161⟩ := hg161
  have Y161 := Y0.tr y161
  have l161 := sFst_in (W := nd (tc X sz) (a + 1 + ((0 : Nat) : Int))) 1
  refine s_if_eq ok rfl (by first | exact hb _ _ | exact ⟨by omega, by omega⟩) (fun c164 => ?_) (fun c164 => ?_)
  · refine s_ci ok rfl ?_
    refine s_stI2 ok rfl rfl ?_
    refine s_goto ok rfl ?_
    exact (by obtain ⟨f1, f2⟩ := nd_f (m := 0) (dg := 1) (t := 7) T0 (zif_f c164) (by omega); exact lp_rs0 (rs_q0 (t := 7) z0 Y161 hd rfl f2 (by omega)))
  · have s161 : sFst (nd (tc X sz) (a + 1 + ((0 : Nat) : Int))) 1 = 1 := zif_t c164
    have T161 : sFst (nd (tc X sz) (a + 1)) 1 = ((1 : Nat) : Int) := nd_g (m := 0) (dg := 1) T0 s161
    have P161 : g161 59 20 = a + 1 + ((1 : Nat) : Int) := by omega
    refine s_ldA0 ok rfl ?_
    refine s_ci ok rfl ?_
    refine s_ci ok rfl ?_
    refine s_callVx ok rfl rfl rfl rfl rfl rfl (ct_readsNumber (h := g161) (hX.y Y161) P161 (by omega) (by omega) (k9 := 1) (dg := 1) (by omega) (by omega) (by omega) (by omega)) (fun σ170 hσ170 => ?_)
    obtain ⟨g170, rfl, hg170⟩ := hσ170
    obtain ⟨y170, o170, p170, v170⟩ := hg170
    have Y170 := Y161.tr y170
    have l170 := sFst_in (W := nd (tc X sz) (a + 1 + ((1 : Nat) : Int))) 1
    refine s_if_eq ok rfl (by first | exact hb _ _ | exact ⟨by omega, by omega⟩) (fun c173 => ?_) (fun c173 => ?_)
    · refine s_ci ok rfl ?_
      refine s_stI2 ok rfl rfl ?_
      refine s_goto ok rfl ?_
      exact (by obtain ⟨f1, f2⟩ := nd_f (m := 1) (dg := 1) (t := 7) T161 (zif_f c173) (by omega); exact lp_rs0 (rs_q0 (t := 7) z0 Y170 hd rfl f2 (by omega)))
    · have s170 : sFst (nd (tc X sz) (a + 1 + ((1 : Nat) : Int))) 1 = 1 := zif_t c173
      have T170 : sFst (nd (tc X sz) (a + 1)) 2 = ((2 : Nat) : Int) := nd_g (m := 1) (dg := 1) T161 s170
      have P170 : g170 59 20 = a + 1 + ((2 : Nat) : Int) := by omega
      refine s_ldA0 ok rfl ?_
      refine s_ci ok rfl ?_
      refine s_ci ok rfl ?_
      refine s_callVx ok rfl rfl rfl rfl rfl rfl (ct_readsNumber (h := g170) (hX.y Y170) P170 (by omega) (by omega) (k9 := 2) (dg := 1) (by omega) (by omega) (by omega) (by omega)) (fun σ179 hσ179 => ?_)
      obtain ⟨g179, rfl, hg179⟩ := hσ179
      obtain ⟨y179, o179, p179, v179⟩ := hg179
      have Y179 := Y170.tr y179
      have l179 := sFst_in (W := nd (tc X sz) (a + 1 + ((2 : Nat) : Int))) 1
      refine s_if_eq ok rfl (by first | exact hb _ _ | exact ⟨by omega, by omega⟩) (fun c182 => ?_) (fun c182 => ?_)
      · refine s_ci ok rfl ?_
        refine s_stI2 ok rfl rfl ?_
        refine s_goto ok rfl ?_
        exact (by obtain ⟨f1, f2⟩ := nd_f (m := 2) (dg := 1) (t := 7) T170 (zif_f c182) (by omega); exact lp_rs0 (rs_q0 (t := 7) z0 Y179 hd rfl f2 (by omega)))
      · have s179 : sFst (nd (tc X sz) (a + 1 + ((2 : Nat) : Int))) 1 = 1 := zif_t c182
        have T179 : sFst (nd (tc X sz) (a + 1)) 3 = ((3 : Nat) : Int) := nd_g (m := 2) (dg := 1) T170 s179
        have P179 : g179 59 20 = a + 1 + ((3 : Nat) : Int) := by omega
        refine s_ldA0 ok rfl ?_
        refine s_ci ok rfl ?_
        refine s_ci ok rfl ?_
        refine s_callVx ok rfl rfl rfl rfl rfl rfl (ct_readsNumber (h := g179) (hX.y Y179) P179 (by omega) (by omega) (k9 := 3) (dg := 1) (by omega) (by omega) (by omega) (by omega)) (fun σ188 hσ188 => ?_)
        obtain ⟨g188, rfl, hg188⟩ := hσ188
        obtain ⟨y188, o188, p188, v188⟩ := hg188
        have Y188 := Y179.tr y188
        have l188 := sFst_in (W := nd (tc X sz) (a + 1 + ((3 : Nat) : Int))) 1
        refine s_if_eq ok rfl (by first | exact hb _ _ | exact ⟨by omega, by omega⟩) (fun c191 => ?_) (fun c191 => ?_)
        · refine s_ci ok rfl ?_
          refine s_stI2 ok rfl rfl ?_
          refine s_goto ok rfl ?_
          exact (by obtain ⟨f1, f2⟩ := nd_f (m := 3) (dg := 1) (t := 7) T179 (zif_f c191) (by omega); exact lp_rs0 (rs_q0 (t := 7) z0 Y188 hd rfl f2 (by omega)))
        · have s188 : sFst (nd (tc X sz) (a + 1 + ((3 : Nat) : Int))) 1 = 1 := zif_t c191
          have T188 : sFst (nd (tc X sz) (a + 1)) 4 = ((4 : Nat) : Int) := nd_g (m := 3) (dg := 1) T179 s188
          have P188 : g188 59 20 = a + 1 + ((4 : Nat) : Int) := by omega
          refine s_ldA0 ok rfl ?_
          refine s_ci ok rfl ?_
          refine s_ci ok rfl ?_
          refine s_callVx ok rfl rfl rfl rfl rfl rfl (ct_readsNumber (h := g188) (hX.y Y188) P188 (by omega) (by omega) (k9 := 4) (dg := 3) (by omega) (by omega) (by omega) (by omega)) (fun σ197 hσ197 => ?_)
          obtain ⟨g197, rfl, hg197⟩ := hσ197
          obtain ⟨y197, o197, p197, v197⟩ := hg197
          have Y197 := Y188.tr y197
          have l197 := sFst_in (W := nd (tc X sz) (a + 1 + ((4 : Nat) : Int))) 3
          refine s_if_eq ok rfl (by first | exact hb _ _ | exact ⟨by omega, by omega⟩) (fun c200 => ?_) (fun c200 => ?_)
          · refine s_ci ok rfl ?_
            refine s_stI2 ok rfl rfl ?_
            refine s_goto ok rfl ?_
            exact (by obtain ⟨f1, f2⟩ := nd_f (m := 4) (dg := 3) (t := 7) T188 (zif_f c200) (by omega); exact lp_rs0 (rs_q0 (t := 7) z0 Y197 hd rfl f2 (by omega)))
          · have s197 : sFst (nd (tc X sz) (a + 1 + ((4 : Nat) : Int))) 3 = 3 := zif_t c200
            have T197 : sFst (nd (tc X sz) (a + 1)) 7 = ((7 : Nat) : Int) := nd_g (m := 4) (dg := 3) T188 s197
            have P197 : g197 59 20 = a + 1 + ((7 : Nat) : Int) := by omega
            refine s_ci ok rfl ?_
            refine s_goto ok rfl ?_
            refine s_stI2 ok rfl rfl ?_
            refine s_goto ok rfl ?_
            have N0 : g197 76 0 = nm (tc X sz) (a + 1 + ((0 : Nat) : Int)) 1 := by rw [o197 0 (by omega), o188 0 (by omega), o179 0 (by omega), o170 0 (by omega), v161, s161]; rfl
            have N1 : g197 76 1 = nm (tc X sz) (a + 1 + ((1 : Nat) : Int)) 1 := by rw [o197 1 (by omega), o188 1 (by omega), o179 1 (by omega), v170, s170]; rfl
            have N2 : g197 76 2 = nm (tc X sz) (a + 1 + ((2 : Nat) : Int)) 1 := by rw [o197 2 (by omega), o188 2 (by omega), v179, s179]; rfl
            have N3 : g197 76 3 = nm (tc X sz) (a + 1 + ((3 : Nat) : Int)) 1 := by rw [o197 3 (by omega), v188, s188]; rfl
            have N4 : g197 76 4 = nm (tc X sz) (a + 1 + ((4 : Nat) : Int)) 3 := by rw [v197, s197]; rfl
            refine lp_rs1 (hX.y Y197) P197 (by omega) (by omega) (fun hc => rs_q0b (t := 7) z0 Y197 hd (by omega) T197 hc P197) (fun hc => rs_q1 (t := 7) z0 Y197.st hd (by omega) T197 hc (zv_is) (fun i i0 i1 => ?_))
            rw [hk] at i1
            rcases (by omega : i = 0 ∨ i = 1 ∨ i = 2 ∨ i = 3 ∨ i = 4) with e | e | e | e | e
            · rw [e, zv_other (by omega), N0]
              unfold nN
              (repeat (first | rw [if_pos (by omega)] | rw [if_neg (by omega)]))
              try rfl
              try (congr 1; omega)
            · rw [e, zv_other (by omega), N1]
              unfold nN
              (repeat (first | rw [if_pos (by omega)] | rw [if_neg (by omega)]))
              try rfl
              try (congr 1; omega)
            · rw [e, zv_other (by omega), N2]
              unfold nN
              (repeat (first | rw [if_pos (by omega)] | rw [if_neg (by omega)]))
              try rfl
              try (congr 1; omega)
            · rw [e, zv_other (by omega), N3]
              unfold nN
              (repeat (first | rw [if_pos (by omega)] | rw [if_neg (by omega)]))
              try rfl
              try (congr 1; omega)
            · rw [e, zv_other (by omega), N4]
              unfold nN
              (repeat (first | rw [if_pos (by omega)] | rw [if_neg (by omega)]))
              try rfl
              try (congr 1; omega)
theorem rs_l {E : zE} {d : Nat} {k : Nat → Nat × Nat} {h : Nat → Int → Int} {r : Nat → Int → Option Nat} {l : Nat → Nat → Int64} {n : Nat} {a0 sz a : Int} {X : Int → Int} (hX : tX h a0 sz X) (z0 : 0 ≤ a) (z1 : a ≤ 150) (hd : dgs ((tc X sz) a) = 2) (hc : (tc X sz) a = 108 ∨ (tc X sz) a = 103) {u : Option Value} {c9 : Int32} : zGo E (d + 3) M_X12_readsStatement 0 0 (zVx (.int (iI (if fB1 (tc X sz) a = -1 then 1 else 0))) (zG k r l n (fun g => tY h g ∧ g 59 20 = (if fB1 (tc X sz) a = -1 then a + dgs (tc X sz a) + 2 else fB1 (tc X sz) a) ∧ (fB1 (tc X sz) a = -1 → ∀ i, 0 ≤ i → i < kN (tc X sz a) → g 76 i = nN (tc X sz) a i)))) 212 ([some (.ref 59), some (.int c9), u], [], zJ (k, zv h 59 20 (a + 1), r, l, n), 0, 0) := by
  have ok := ok_X12_readsStatement
  have Y0 : tY h (zv h 59 20 (a + 1)) := tY.rf.st
  have P0 : zv h 59 20 (a + 1) 59 20 = a + 1 + ((0 : Nat) : Int) := by rw [zv_is]; omega
  have T0 : sFst (nd (tc X sz) (a + 1)) 0 = ((0 : Nat) : Int) := rfl
  have hk : kN ((tc X sz) a) = 1 := by unfold kN; (repeat (first | rw [if_pos (by omega)] | rw [if_neg (by omega)]))
  refine s_ldA0 ok rfl ?_
  refine s_ci ok rfl ?_
  refine s_ci ok rfl ?_
  refine s_callVx ok rfl rfl rfl rfl rfl rfl (ct_readsNumber (h := (zv h 59 20 (a + 1))) (hX.y Y0) P0 (by omega) (by omega) (k9 := 0) (dg := 2) (by omega) (by omega) (by omega) (by omega)) (fun σ215 hσ215 => ?_)
  obtain ⟨g215, rfl, hg215⟩ := hσ215
  obtain ⟨y215, o215, p215, v215⟩ := hg215
  have Y215 := Y0.tr y215
  have l215 := sFst_in (W := nd (tc X sz) (a + 1 + ((0 : Nat) : Int))) 2
  refine s_stI2 ok rfl rfl ?_
  refine s_goto ok rfl ?_
  by_cases w9 : sFst (nd (tc X sz) (a + 1 + ((0 : Nat) : Int))) 2 = ((2 : Nat) : Int)
  · rw [if_pos w9]
    have s215 := w9
    have T215 : sFst (nd (tc X sz) (a + 1)) 2 = ((2 : Nat) : Int) := nd_g (m := 0) (dg := 2) T0 w9
    have T215 : sFst (nd (tc X sz) (a + 1)) 2 = ((2 : Nat) : Int) := T215
    have P215 : g215 59 20 = a + 1 + ((2 : Nat) : Int) := by omega
    have N0 : g215 76 0 = nm (tc X sz) (a + 1 + ((0 : Nat) : Int)) 2 := by rw [v215, s215]; rfl
    refine lp_rs1 (hX.y Y215) P215 (by omega) (by omega) (fun hc => rs_q0b (t := 2) z0 Y215 hd (by omega) T215 hc P215) (fun hc => rs_q1 (t := 2) z0 Y215.st hd (by omega) T215 hc (zv_is) (fun i i0 i1 => ?_))
    rw [hk] at i1
    rcases (by omega : i = 0) with e
    · rw [e, zv_other (by omega), N0]
      unfold nN
      (repeat (first | rw [if_pos (by omega)] | rw [if_neg (by omega)]))
      try rfl
      try (congr 1; omega)
  · rw [if_neg w9]
    exact (by obtain ⟨f1, f2⟩ := nd_f (m := 0) (dg := 2) (t := 2) T0 w9 (by omega); exact lp_rs0 (rs_q0 (t := 2) z0 Y215 hd rfl f2 (by omega)))
theorem rs_s {E : zE} {d : Nat} {k : Nat → Nat × Nat} {h : Nat → Int → Int} {r : Nat → Int → Option Nat} {l : Nat → Nat → Int64} {n : Nat} {a0 sz a : Int} {X : Int → Int} (hX : tX h a0 sz X) (z0 : 0 ≤ a) (z1 : a ≤ 150) (hd : dgs ((tc X sz) a) = 1) (hc : (tc X sz) a = 115 ∨ (tc X sz) a = 104 ∨ (tc X sz) a = 120) {u : Option Value} {c9 : Int32} : zGo E (d + 3) M_X12_readsStatement 0 0 (zVx (.int (iI (if fB1 (tc X sz) a = -1 then 1 else 0))) (zG k r l n (fun g => tY h g ∧ g 59 20 = (if fB1 (tc X sz) a = -1 then a + dgs (tc X sz a) + 2 else fB1 (tc X sz) a) ∧ (fB1 (tc X sz) a = -1 → ∀ i, 0 ≤ i → i < kN (tc X sz a) → g 76 i = nN (tc X sz) a i)))) 222 ([some (.ref 59), some (.int c9), u], [], zJ (k, zv h 59 20 (a + 1), r, l, n), 0, 0) := by
  have ok := ok_X12_readsStatement
  have Y0 : tY h (zv h 59 20 (a + 1)) := tY.rf.st
  have P0 : zv h 59 20 (a + 1) 59 20 = a + 1 + ((0 : Nat) : Int) := by rw [zv_is]; omega
  have T0 : sFst (nd (tc X sz) (a + 1)) 0 = ((0 : Nat) : Int) := rfl
  have hk : kN ((tc X sz) a) = 1 := by unfold kN; (repeat (first | rw [if_pos (by omega)] | rw [if_neg (by omega)]))
  refine s_ldA0 ok rfl ?_
  refine s_ci ok rfl ?_
  refine s_ci ok rfl ?_
  refine s_callVx ok rfl rfl rfl rfl rfl rfl (ct_readsNumber (h := (zv h 59 20 (a + 1))) (hX.y Y0) P0 (by omega) (by omega) (k9 := 0) (dg := 1) (by omega) (by omega) (by omega) (by omega)) (fun σ225 hσ225 => ?_)
  obtain ⟨g225, rfl, hg225⟩ := hσ225
  obtain ⟨y225, o225, p225, v225⟩ := hg225
  have Y225 := Y0.tr y225
  have l225 := sFst_in (W := nd (tc X sz) (a + 1 + ((0 : Nat) : Int))) 1
  refine s_stI2 ok rfl rfl ?_
  refine s_goto ok rfl ?_
  by_cases w9 : sFst (nd (tc X sz) (a + 1 + ((0 : Nat) : Int))) 1 = ((1 : Nat) : Int)
  · rw [if_pos w9]
    have s225 := w9
    have T225 : sFst (nd (tc X sz) (a + 1)) 1 = ((1 : Nat) : Int) := nd_g (m := 0) (dg := 1) T0 w9
    have T225 : sFst (nd (tc X sz) (a + 1)) 1 = ((1 : Nat) : Int) := T225
    have P225 : g225 59 20 = a + 1 + ((1 : Nat) : Int) := by omega
    have N0 : g225 76 0 = nm (tc X sz) (a + 1 + ((0 : Nat) : Int)) 1 := by rw [v225, s225]; rfl
    refine lp_rs1 (hX.y Y225) P225 (by omega) (by omega) (fun hc => rs_q0b (t := 1) z0 Y225 hd (by omega) T225 hc P225) (fun hc => rs_q1 (t := 1) z0 Y225.st hd (by omega) T225 hc (zv_is) (fun i i0 i1 => ?_))
    rw [hk] at i1
    rcases (by omega : i = 0) with e
    · rw [e, zv_other (by omega), N0]
      unfold nN
      (repeat (first | rw [if_pos (by omega)] | rw [if_neg (by omega)]))
      try rfl
      try (congr 1; omega)
  · rw [if_neg w9]
    exact (by obtain ⟨f1, f2⟩ := nd_f (m := 0) (dg := 1) (t := 1) T0 w9 (by omega); exact lp_rs0 (rs_q0 (t := 1) z0 Y225 hd rfl f2 (by omega)))
theorem ct_readsStatement {E : zE} {d : Nat} {k : Nat → Nat × Nat} {h : Nat → Int → Int} {r : Nat → Int → Option Nat} {l : Nat → Nat → Int64} {n : Nat} {a0 sz a : Int} {X : Int → Int} (hX : tX h a0 sz X) (ha : h 59 20 = a) (z0 : 0 ≤ a) (z1 : a ≤ 150) : zCT E (d + 3) M_X12_readsStatement [.ref 59] (zJ (k, h, r, l, n)) 0 0 (zVx (.int (iI (if fB1 (tc X sz) a = -1 then 1 else 0))) (zG k r l n (fun g => tY h g ∧ g 59 20 = (if fB1 (tc X sz) a = -1 then a + dgs (tc X sz a) + 2 else fB1 (tc X sz) a) ∧ (fB1 (tc X sz) a = -1 → ∀ i, 0 ≤ i → i < kN (tc X sz a) → g 76 i = nN (tc X sz) a i)))) := by
  have ok := ok_X12_readsStatement
  refine zCT_of pn_X12_readsStatement (Nat.le_of_ble_eq_true rfl) ?_
  show zGo _ _ _ _ _ _ 0 ([some (.ref 59), none, none], [], _, _, _)
  have hb9 := hr_b (E := X) (sz := sz) (a := a)
  have hcc : ∀ ch : Int, 1 ≤ ch → ch ≤ 127 → (hr X sz a = ch ↔ tc X sz a = ch) := fun ch c0 c1 => hr_c hX.2.2.2.2 z0 c0 c1
  refine s_ldA0 ok rfl ?_
  refine s_callV ok rfl rfl rfl rfl rfl rfl (ct_here hX ha z0 (by omega)) ?_
  refine s_stI1 ok rfl rfl ?_
  refine s_ldA0 ok rfl ?_
  refine s_dupA ok rfl ?_
  refine s_getJ 20 ok rfl rfl rfl rfl ?_
  rw [ha]
  refine s_ci ok rfl ?_
  refine s_add ok rfl ?_
  refine s_putJ 20 ok rfl rfl rfl rfl (fun q => by cases q) ?_
  refine s_ldI1 ok rfl ?_
  refine s_sw ok rfl ?_
  refine zsw_c (by first | exact hb _ _ | exact ⟨by omega, by omega⟩) (by first | exact hb _ _ | exact ⟨by omega, by omega⟩) (fun c16 => ?_) (fun c16_103 => ?_)
  · have hc := (hr_c hX.2.2.2.2 z0 (by omega) (by omega)).mp c16
    exact rs_l hX z0 z1 (by unfold dgs; (repeat (first | rw [if_pos (by omega)] | rw [if_neg (by omega)]))) (by omega)
  refine zsw_c (by first | exact hb _ _ | exact ⟨by omega, by omega⟩) (by first | exact hb _ _ | exact ⟨by omega, by omega⟩) (fun c16 => ?_) (fun c16_104 => ?_)
  · have hc := (hr_c hX.2.2.2.2 z0 (by omega) (by omega)).mp c16
    exact rs_s hX z0 z1 (by unfold dgs; (repeat (first | rw [if_pos (by omega)] | rw [if_neg (by omega)]))) (by omega)
  refine zsw_c (by first | exact hb _ _ | exact ⟨by omega, by omega⟩) (by first | exact hb _ _ | exact ⟨by omega, by omega⟩) (fun c16 => ?_) (fun c16_105 => ?_)
  · have hn : dgs (tc X sz a) = 0 := by
      unfold dgs
      (repeat rw [if_neg (fun q => by first | (have := (hcc _ (by omega) (by omega)).mpr q; omega) | (rcases q with q | q <;> (have := (hcc _ (by omega) (by omega)).mpr q; omega)) | (rcases q with q | q | q <;> (have := (hcc _ (by omega) (by omega)).mpr q; omega)))])
    refine s_ldA0 ok rfl ?_
    refine s_dupA ok rfl ?_
    refine s_getJ 20 ok rfl rfl rfl rfl ?_
    rw [zv_is]
    refine s_ci ok rfl ?_
    refine s_sub ok rfl ?_
    refine s_putJ 20 ok rfl rfl rfl rfl (fun q => by cases q) ?_
    refine s_ci ok rfl ?_
    refine s_retZ ok rfl (by first | exact Or.inl rfl | exact Or.inr rfl) (rs_q0a (t := 0) z0 (tY.rf.st).st hn (by rw [zv_is]; omega))
  refine zsw_c (by first | exact hb _ _ | exact ⟨by omega, by omega⟩) (by first | exact hb _ _ | exact ⟨by omega, by omega⟩) (fun c16 => ?_) (fun c16_106 => ?_)
  · have hn : dgs (tc X sz a) = 0 := by
      unfold dgs
      (repeat rw [if_neg (fun q => by first | (have := (hcc _ (by omega) (by omega)).mpr q; omega) | (rcases q with q | q <;> (have := (hcc _ (by omega) (by omega)).mpr q; omega)) | (rcases q with q | q | q <;> (have := (hcc _ (by omega) (by omega)).mpr q; omega)))])
    refine s_ldA0 ok rfl ?_
    refine s_dupA ok rfl ?_
    refine s_getJ 20 ok rfl rfl rfl rfl ?_
    rw [zv_is]
    refine s_ci ok rfl ?_
    refine s_sub ok rfl ?_
    refine s_putJ 20 ok rfl rfl rfl rfl (fun q => by cases q) ?_
    refine s_ci ok rfl ?_
    refine s_retZ ok rfl (by first | exact Or.inl rfl | exact Or.inr rfl) (rs_q0a (t := 0) z0 (tY.rf.st).st hn (by rw [zv_is]; omega))
  refine zsw_c (by first | exact hb _ _ | exact ⟨by omega, by omega⟩) (by first | exact hb _ _ | exact ⟨by omega, by omega⟩) (fun c16 => ?_) (fun c16_107 => ?_)
  · have hn : dgs (tc X sz a) = 0 := by
      unfold dgs
      (repeat rw [if_neg (fun q => by first | (have := (hcc _ (by omega) (by omega)).mpr q; omega) | (rcases q with q | q <;> (have := (hcc _ (by omega) (by omega)).mpr q; omega)) | (rcases q with q | q | q <;> (have := (hcc _ (by omega) (by omega)).mpr q; omega)))])
    refine s_ldA0 ok rfl ?_
    refine s_dupA ok rfl ?_
    refine s_getJ 20 ok rfl rfl rfl rfl ?_
    rw [zv_is]
    refine s_ci ok rfl ?_
    refine s_sub ok rfl ?_
    refine s_putJ 20 ok rfl rfl rfl rfl (fun q => by cases q) ?_
    refine s_ci ok rfl ?_
    refine s_retZ ok rfl (by first | exact Or.inl rfl | exact Or.inr rfl) (rs_q0a (t := 0) z0 (tY.rf.st).st hn (by rw [zv_is]; omega))
  refine zsw_c (by first | exact hb _ _ | exact ⟨by omega, by omega⟩) (by first | exact hb _ _ | exact ⟨by omega, by omega⟩) (fun c16 => ?_) (fun c16_108 => ?_)
  · have hc := (hr_c hX.2.2.2.2 z0 (by omega) (by omega)).mp c16
    exact rs_l hX z0 z1 (by unfold dgs; (repeat (first | rw [if_pos (by omega)] | rw [if_neg (by omega)]))) (by omega)
  refine zsw_c (by first | exact hb _ _ | exact ⟨by omega, by omega⟩) (by first | exact hb _ _ | exact ⟨by omega, by omega⟩) (fun c16 => ?_) (fun c16_109 => ?_)
  · have hn : dgs (tc X sz a) = 0 := by
      unfold dgs
      (repeat rw [if_neg (fun q => by first | (have := (hcc _ (by omega) (by omega)).mpr q; omega) | (rcases q with q | q <;> (have := (hcc _ (by omega) (by omega)).mpr q; omega)) | (rcases q with q | q | q <;> (have := (hcc _ (by omega) (by omega)).mpr q; omega)))])
    refine s_ldA0 ok rfl ?_
    refine s_dupA ok rfl ?_
    refine s_getJ 20 ok rfl rfl rfl rfl ?_
    rw [zv_is]
    refine s_ci ok rfl ?_
    refine s_sub ok rfl ?_
    refine s_putJ 20 ok rfl rfl rfl rfl (fun q => by cases q) ?_
    refine s_ci ok rfl ?_
    refine s_retZ ok rfl (by first | exact Or.inl rfl | exact Or.inr rfl) (rs_q0a (t := 0) z0 (tY.rf.st).st hn (by rw [zv_is]; omega))
  refine zsw_c (by first | exact hb _ _ | exact ⟨by omega, by omega⟩) (by first | exact hb _ _ | exact ⟨by omega, by omega⟩) (fun c16 => ?_) (fun c16_110 => ?_)
  · have hn : dgs (tc X sz a) = 0 := by
      unfold dgs
      (repeat rw [if_neg (fun q => by first | (have := (hcc _ (by omega) (by omega)).mpr q; omega) | (rcases q with q | q <;> (have := (hcc _ (by omega) (by omega)).mpr q; omega)) | (rcases q with q | q | q <;> (have := (hcc _ (by omega) (by omega)).mpr q; omega)))])
    refine s_ldA0 ok rfl ?_
    refine s_dupA ok rfl ?_
    refine s_getJ 20 ok rfl rfl rfl rfl ?_
    rw [zv_is]
    refine s_ci ok rfl ?_
    refine s_sub ok rfl ?_
    refine s_putJ 20 ok rfl rfl rfl rfl (fun q => by cases q) ?_
    refine s_ci ok rfl ?_
    refine s_retZ ok rfl (by first | exact Or.inl rfl | exact Or.inr rfl) (rs_q0a (t := 0) z0 (tY.rf.st).st hn (by rw [zv_is]; omega))
  refine zsw_c (by first | exact hb _ _ | exact ⟨by omega, by omega⟩) (by first | exact hb _ _ | exact ⟨by omega, by omega⟩) (fun c16 => ?_) (fun c16_111 => ?_)
  · have hn : dgs (tc X sz a) = 0 := by
      unfold dgs
      (repeat rw [if_neg (fun q => by first | (have := (hcc _ (by omega) (by omega)).mpr q; omega) | (rcases q with q | q <;> (have := (hcc _ (by omega) (by omega)).mpr q; omega)) | (rcases q with q | q | q <;> (have := (hcc _ (by omega) (by omega)).mpr q; omega)))])
    refine s_ldA0 ok rfl ?_
    refine s_dupA ok rfl ?_
    refine s_getJ 20 ok rfl rfl rfl rfl ?_
    rw [zv_is]
    refine s_ci ok rfl ?_
    refine s_sub ok rfl ?_
    refine s_putJ 20 ok rfl rfl rfl rfl (fun q => by cases q) ?_
    refine s_ci ok rfl ?_
    refine s_retZ ok rfl (by first | exact Or.inl rfl | exact Or.inr rfl) (rs_q0a (t := 0) z0 (tY.rf.st).st hn (by rw [zv_is]; omega))
  refine zsw_c (by first | exact hb _ _ | exact ⟨by omega, by omega⟩) (by first | exact hb _ _ | exact ⟨by omega, by omega⟩) (fun c16 => ?_) (fun c16_112 => ?_)
  · have hc := (hr_c hX.2.2.2.2 z0 (by omega) (by omega)).mp c16
    exact rs_p hX z0 z1 (by unfold dgs; (repeat (first | rw [if_pos (by omega)] | rw [if_neg (by omega)]))) (by omega)
  refine zsw_c (by first | exact hb _ _ | exact ⟨by omega, by omega⟩) (by first | exact hb _ _ | exact ⟨by omega, by omega⟩) (fun c16 => ?_) (fun c16_113 => ?_)
  · have hn : dgs (tc X sz a) = 0 := by
      unfold dgs
      (repeat rw [if_neg (fun q => by first | (have := (hcc _ (by omega) (by omega)).mpr q; omega) | (rcases q with q | q <;> (have := (hcc _ (by omega) (by omega)).mpr q; omega)) | (rcases q with q | q | q <;> (have := (hcc _ (by omega) (by omega)).mpr q; omega)))])
    refine s_ldA0 ok rfl ?_
    refine s_dupA ok rfl ?_
    refine s_getJ 20 ok rfl rfl rfl rfl ?_
    rw [zv_is]
    refine s_ci ok rfl ?_
    refine s_sub ok rfl ?_
    refine s_putJ 20 ok rfl rfl rfl rfl (fun q => by cases q) ?_
    refine s_ci ok rfl ?_
    refine s_retZ ok rfl (by first | exact Or.inl rfl | exact Or.inr rfl) (rs_q0a (t := 0) z0 (tY.rf.st).st hn (by rw [zv_is]; omega))
  refine zsw_c (by first | exact hb _ _ | exact ⟨by omega, by omega⟩) (by first | exact hb _ _ | exact ⟨by omega, by omega⟩) (fun c16 => ?_) (fun c16_114 => ?_)
  · have hc := (hr_c hX.2.2.2.2 z0 (by omega) (by omega)).mp c16
    exact rs_r hX z0 z1 (by unfold dgs; (repeat (first | rw [if_pos (by omega)] | rw [if_neg (by omega)]))) (by omega)
  refine zsw_c (by first | exact hb _ _ | exact ⟨by omega, by omega⟩) (by first | exact hb _ _ | exact ⟨by omega, by omega⟩) (fun c16 => ?_) (fun c16_115 => ?_)
  · have hc := (hr_c hX.2.2.2.2 z0 (by omega) (by omega)).mp c16
    exact rs_s hX z0 z1 (by unfold dgs; (repeat (first | rw [if_pos (by omega)] | rw [if_neg (by omega)]))) (by omega)
  refine zsw_c (by first | exact hb _ _ | exact ⟨by omega, by omega⟩) (by first | exact hb _ _ | exact ⟨by omega, by omega⟩) (fun c16 => ?_) (fun c16_116 => ?_)
  · have hc := (hr_c hX.2.2.2.2 z0 (by omega) (by omega)).mp c16
    exact rs_t hX z0 z1 (by unfold dgs; (repeat (first | rw [if_pos (by omega)] | rw [if_neg (by omega)]))) (by omega)
  refine zsw_c (by first | exact hb _ _ | exact ⟨by omega, by omega⟩) (by first | exact hb _ _ | exact ⟨by omega, by omega⟩) (fun c16 => ?_) (fun c16_117 => ?_)
  · have hn : dgs (tc X sz a) = 0 := by
      unfold dgs
      (repeat rw [if_neg (fun q => by first | (have := (hcc _ (by omega) (by omega)).mpr q; omega) | (rcases q with q | q <;> (have := (hcc _ (by omega) (by omega)).mpr q; omega)) | (rcases q with q | q | q <;> (have := (hcc _ (by omega) (by omega)).mpr q; omega)))])
    refine s_ldA0 ok rfl ?_
    refine s_dupA ok rfl ?_
    refine s_getJ 20 ok rfl rfl rfl rfl ?_
    rw [zv_is]
    refine s_ci ok rfl ?_
    refine s_sub ok rfl ?_
    refine s_putJ 20 ok rfl rfl rfl rfl (fun q => by cases q) ?_
    refine s_ci ok rfl ?_
    refine s_retZ ok rfl (by first | exact Or.inl rfl | exact Or.inr rfl) (rs_q0a (t := 0) z0 (tY.rf.st).st hn (by rw [zv_is]; omega))
  refine zsw_c (by first | exact hb _ _ | exact ⟨by omega, by omega⟩) (by first | exact hb _ _ | exact ⟨by omega, by omega⟩) (fun c16 => ?_) (fun c16_118 => ?_)
  · have hn : dgs (tc X sz a) = 0 := by
      unfold dgs
      (repeat rw [if_neg (fun q => by first | (have := (hcc _ (by omega) (by omega)).mpr q; omega) | (rcases q with q | q <;> (have := (hcc _ (by omega) (by omega)).mpr q; omega)) | (rcases q with q | q | q <;> (have := (hcc _ (by omega) (by omega)).mpr q; omega)))])
    refine s_ldA0 ok rfl ?_
    refine s_dupA ok rfl ?_
    refine s_getJ 20 ok rfl rfl rfl rfl ?_
    rw [zv_is]
    refine s_ci ok rfl ?_
    refine s_sub ok rfl ?_
    refine s_putJ 20 ok rfl rfl rfl rfl (fun q => by cases q) ?_
    refine s_ci ok rfl ?_
    refine s_retZ ok rfl (by first | exact Or.inl rfl | exact Or.inr rfl) (rs_q0a (t := 0) z0 (tY.rf.st).st hn (by rw [zv_is]; omega))
  refine zsw_c (by first | exact hb _ _ | exact ⟨by omega, by omega⟩) (by first | exact hb _ _ | exact ⟨by omega, by omega⟩) (fun c16 => ?_) (fun c16_119 => ?_)
  · have hn : dgs (tc X sz a) = 0 := by
      unfold dgs
      (repeat rw [if_neg (fun q => by first | (have := (hcc _ (by omega) (by omega)).mpr q; omega) | (rcases q with q | q <;> (have := (hcc _ (by omega) (by omega)).mpr q; omega)) | (rcases q with q | q | q <;> (have := (hcc _ (by omega) (by omega)).mpr q; omega)))])
    refine s_ldA0 ok rfl ?_
    refine s_dupA ok rfl ?_
    refine s_getJ 20 ok rfl rfl rfl rfl ?_
    rw [zv_is]
    refine s_ci ok rfl ?_
    refine s_sub ok rfl ?_
    refine s_putJ 20 ok rfl rfl rfl rfl (fun q => by cases q) ?_
    refine s_ci ok rfl ?_
    refine s_retZ ok rfl (by first | exact Or.inl rfl | exact Or.inr rfl) (rs_q0a (t := 0) z0 (tY.rf.st).st hn (by rw [zv_is]; omega))
  refine zsw_c (by first | exact hb _ _ | exact ⟨by omega, by omega⟩) (by first | exact hb _ _ | exact ⟨by omega, by omega⟩) (fun c16 => ?_) (fun c16_120 => ?_)
  · have hc := (hr_c hX.2.2.2.2 z0 (by omega) (by omega)).mp c16
    exact rs_s hX z0 z1 (by unfold dgs; (repeat (first | rw [if_pos (by omega)] | rw [if_neg (by omega)]))) (by omega)
  show zGo _ _ _ _ _ _ 232 _
  have hn : dgs (tc X sz a) = 0 := by
    unfold dgs
    (repeat rw [if_neg (fun q => by first | (have := (hcc _ (by omega) (by omega)).mpr q; omega) | (rcases q with q | q <;> (have := (hcc _ (by omega) (by omega)).mpr q; omega)) | (rcases q with q | q | q <;> (have := (hcc _ (by omega) (by omega)).mpr q; omega)))])
  refine s_ldA0 ok rfl ?_
  refine s_dupA ok rfl ?_
  refine s_getJ 20 ok rfl rfl rfl rfl ?_
  rw [zv_is]
  refine s_ci ok rfl ?_
  refine s_sub ok rfl ?_
  refine s_putJ 20 ok rfl rfl rfl rfl (fun q => by cases q) ?_
  refine s_ci ok rfl ?_
  refine s_retZ ok rfl (by first | exact Or.inl rfl | exact Or.inr rfl) (rs_q0a (t := 0) z0 (tY.rf.st).st hn (by rw [zv_is]; omega))
