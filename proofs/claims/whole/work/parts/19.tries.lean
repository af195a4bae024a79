/-! One tries to get on -/
def sTry (x p : Int) (h : Nat → Int → Int) : Nat → Int → Int :=
  if (((pCm (h 60) p ≤ h 64 x) ∧ ((x % 3 = 0 ∧ zbt (h 60 1) (x / 3) = 0) ∨ (0 < x % 3 ∧ zbt (h 72 p) (x - 1) = 1)) ∧ ¬ pTk (h 60) p (x % 3) = 0) ∧ h 65 x + pPl (h 60) p ≤ h 60 (11 + 2 * (x / 3) + 1)) then zv (zv (zv (zv h 69 p x) 70 p (h 64 x)) 65 x (h 65 x + pPl (h 60) p)) 59 19 (h 59 19 + 1)
  else if ((0 < x % 3 ∧ ¬ (0 < x % 3 ∧ zbt (h 72 p) (x - 1) = 1)) ∨ h 60 2 + pEx (h 60) p < max 0 (pCm (h 60) p - h 64 x)) then (if ((pCm (h 60) p ≤ h 64 x) ∧ ((x % 3 = 0 ∧ zbt (h 60 1) (x / 3) = 0) ∨ (0 < x % 3 ∧ zbt (h 72 p) (x - 1) = 1)) ∧ ¬ pTk (h 60) p (x % 3) = 0) then zv h 74 p (h 74 p + 1) else h)
  else zv (zv (if ((pCm (h 60) p ≤ h 64 x) ∧ ((x % 3 = 0 ∧ zbt (h 60 1) (x / 3) = 0) ∨ (0 < x % 3 ∧ zbt (h 72 p) (x - 1) = 1)) ∧ ¬ pTk (h 60) p (x % 3) = 0) then zv h 74 p (h 74 p + 1) else h) 72 p (zsb (h 72 p) x)) 73 p (h 73 p + 1)
theorem ct_tries {E : zE} {d : Nat} {k : Nat → Nat × Nat} {h : Nat → Int → Int} {r : Nat → Int → Option Nat} {l : Nat → Nat → Int64} {n : Nat} {p x : Int} (hp : pOK (h 60)) (p0 : 0 ≤ p) (p1 : p < 8) (x0 : 0 ≤ x) (x1 : x < 12) (hm : 0 ≤ h 72 p ∧ h 72 p < 4096) (h4 : 0 ≤ h 64 x ∧ h 64 x ≤ 100000) (h5 : -100000 ≤ h 65 x ∧ h 65 x ≤ 100000) : zCT E (d + 2) M_X12_tries [.ref 59, .int (iI p), .int (iI x)] (zJ (k, h, r, l, n)) 0 0 (zU (zJ (k, sTry x p h, r, l, n))) := by
  have ok := ok_X12_tries
  obtain ⟨⟨k0, k1⟩, ⟨f0, f1⟩, -, -, -⟩ := hp.2.2.2.2.2.2.2.2.2.2.2.2.2.2.2.2 p p0 p1
  have q1 := zbt_01 (h 72 p) (x - 1)
  have q2 := zbt_01 (h 60 1) (x / 3)
  have q3 := pTk_01 (h 60) p (x % 3)
  have q4 := pCm_b hp p0 p1
  have q5 := pPl_b (h 60) p
  have q6 := pEx_b hp p0 p1
  have q7 := hp.2.2.2.2.2.2.2.2.2.2.2.2.2.2.2.1 (x / 3) (by omega) (by omega)
  have q8 := hp.2.2.1
  have q9 := hp.2.2.2.1
  have q10 := hp.2.2.2.2.1
  have q11 := hp.2.2.2.2.2.1
  have K202 : ∀ (b4 b5 b6 b7 : Int) (u : Option Value) (h1 : Nat → Int → Int), h1 60 = h 60 → h1 64 = h 64 → h1 72 = h 72 → h1 73 = h 73 → (b5 = 1 ∧ (0 < x % 3 ∧ zbt (h 72 p) (x - 1) = 1) ∨ b5 = 0 ∧ ¬ (0 < x % 3 ∧ zbt (h 72 p) (x - 1) = 1)) → sTry x p h = (if ((0 < x % 3 ∧ ¬ (0 < x % 3 ∧ zbt (h 72 p) (x - 1) = 1)) ∨ h 60 2 + pEx (h 60) p < max 0 (pCm (h 60) p - h 64 x)) then h1 else zv (zv h1 72 p (zsb (h 72 p) x)) 73 p (h 73 p + 1)) → zGo E (d + 2) M_X12_tries 0 0 (zU (zJ (k, sTry x p h, r, l, n))) 202 ([some (.ref 59), some (.int (iI p)), some (.int (iI x)), some (.int (iI (x % 3))), some (.int (iI b4)), some (.int (iI b5)), some (.int (iI b6)), some (.int (iI b7)), u], [], zJ (k, h1, r, l, n), 0, 0) := by
    intro b4 b5 b6 b7 u h1 e60 e64 e72 e73 hb5 hs
    have hp1 : pOK (h1 60) := by rw [e60]; exact hp
    have y1 : pCm (h1 60) p = pCm (h 60) p := by rw [e60]
    have y2 : h1 64 x = h 64 x := by rw [e64]
    have y3 : h1 60 2 = h 60 2 := by rw [e60]
    have y4 : kEx (pK (h1 60) p) (pF (h1 60) p) = pEx (h 60) p := by rw [e60]; rfl
    have y5 : h1 72 p = h 72 p := by rw [e72]
    have y6 : h1 73 p = h 73 p := by rw [e73]
    have z265 : (iI (h1 72 p) ||| iI (z2 x)) = iI (zsb (h 72 p) x) := by rw [y5]; exact (zob hm.1 hm.2 x0 x1).1
    refine s_ci ok rfl ?_
    refine s_ldA0 ok rfl ?_
    refine s_ldI1 ok rfl ?_
    refine s_callV ok rfl rfl rfl rfl rfl rfl (ct_comesAt (by first | exact hp | exact hp1) p0 p1) ?_
    refine s_ldA0 ok rfl ?_
    refine s_getF ok rfl rfl rfl rfl ?_
    refine s_ldI2 ok rfl ?_
    refine s_iald ok rfl (by exact rfl) (by exact rfl) (by omega) (by omega) ?_
    refine s_sub ok rfl ?_
    refine s_callS ok rfl rfl rfl rfl (ct_most ⟨by omega, by omega⟩ ⟨by omega, by omega⟩) ?_
    refine s_stI8 ok rfl rfl ?_
    refine s_ldI3 ok rfl ?_
    refine s_if_le ok rfl ⟨by omega, by omega⟩ (fun c221 => ?_) (fun c221 => ?_)
    · refine s_ldI8 ok rfl ?_
      refine s_ldA0 ok rfl ?_
      refine s_getF ok rfl rfl rfl rfl ?_
      refine s_ci ok rfl ?_
      refine s_iald ok rfl (by exact rfl) (by exact rfl) (by omega) (by omega) ?_
      refine s_ldA0 ok rfl ?_
      refine s_ldI1 ok rfl ?_
      refine s_callV ok rfl rfl rfl rfl rfl rfl (ct_kind p0 p1) ?_
      refine s_ldA0 ok rfl ?_
      refine s_ldI1 ok rfl ?_
      refine s_callV ok rfl rfl rfl rfl rfl rfl (ct_figure p0 p1) ?_
      refine s_callS ok rfl rfl rfl rfl (ct_excuseBy (by show 0 ≤ pK (h1 60) p; rw [e60]; omega) (by show pK (h1 60) p ≤ 7; rw [e60]; omega) (by show 0 ≤ pF (h1 60) p; rw [e60]; omega) (by show pF (h1 60) p ≤ 9; rw [e60]; omega)) ?_
      refine s_add ok rfl ?_
      refine s_c_le ok rfl ⟨by omega, by omega⟩ ⟨by omega, by omega⟩ (fun c251 => ?_) (fun c251 => ?_)
      · refine s_ldA0 ok rfl ?_
        refine s_getF ok rfl rfl rfl rfl ?_
        refine s_ldI1 ok rfl ?_
        refine s_dup2 ok rfl ?_
        refine s_iald ok rfl (by exact rfl) (by exact rfl) (by omega) (by omega) ?_
        refine s_ci ok rfl ?_
        refine s_ldI2 ok rfl ?_
        refine s_bin ok rfl (zshl x0 x1) ?_
        refine s_bin ok rfl (z265) ?_
        refine s_iast ok rfl (by exact rfl) (by exact rfl) (by omega) (by omega) (fun q => by cases q) ?_
        refine s_ldA0 ok rfl ?_
        refine s_getF ok rfl rfl rfl rfl ?_
        refine s_ldI1 ok rfl ?_
        refine s_dup2 ok rfl ?_
        refine s_iald ok rfl (by exact rfl) (by exact rfl) (by omega) (by omega) ?_
        refine s_ci ok rfl ?_
        refine s_add ok rfl ?_
        refine s_iast ok rfl (by exact rfl) (by exact rfl) (by omega) (by omega) (fun q => by cases q) ?_
        refine s_retV ok rfl ⟨rfl, by rw [hs, if_neg (by omega), ← y6]; rfl⟩
      · refine s_retV ok rfl ⟨rfl, by rw [hs, if_pos (by omega)]⟩
    · refine s_ldI5 ok rfl ?_
      refine s_if_eq ok rfl ⟨by omega, by omega⟩ (fun c226 => ?_) (fun c226 => ?_)
      · refine s_retV ok rfl ⟨rfl, by rw [hs, if_pos (by omega)]⟩
      · refine s_ldI8 ok rfl ?_
        refine s_ldA0 ok rfl ?_
        refine s_getF ok rfl rfl rfl rfl ?_
        refine s_ci ok rfl ?_
        refine s_iald ok rfl (by exact rfl) (by exact rfl) (by omega) (by omega) ?_
        refine s_ldA0 ok rfl ?_
        refine s_ldI1 ok rfl ?_
        refine s_callV ok rfl rfl rfl rfl rfl rfl (ct_kind p0 p1) ?_
        refine s_ldA0 ok rfl ?_
        refine s_ldI1 ok rfl ?_
        refine s_callV ok rfl rfl rfl rfl rfl rfl (ct_figure p0 p1) ?_
        refine s_callS ok rfl rfl rfl rfl (ct_excuseBy (by show 0 ≤ pK (h1 60) p; rw [e60]; omega) (by show pK (h1 60) p ≤ 7; rw [e60]; omega) (by show 0 ≤ pF (h1 60) p; rw [e60]; omega) (by show pF (h1 60) p ≤ 9; rw [e60]; omega)) ?_
        refine s_add ok rfl ?_
        refine s_c_le ok rfl ⟨by omega, by omega⟩ ⟨by omega, by omega⟩ (fun c251 => ?_) (fun c251 => ?_)
        · refine s_ldA0 ok rfl ?_
          refine s_getF ok rfl rfl rfl rfl ?_
          refine s_ldI1 ok rfl ?_
          refine s_dup2 ok rfl ?_
          refine s_iald ok rfl (by exact rfl) (by exact rfl) (by omega) (by omega) ?_
          refine s_ci ok rfl ?_
          refine s_ldI2 ok rfl ?_
          refine s_bin ok rfl (zshl x0 x1) ?_
          refine s_bin ok rfl (z265) ?_
          refine s_iast ok rfl (by exact rfl) (by exact rfl) (by omega) (by omega) (fun q => by cases q) ?_
          refine s_ldA0 ok rfl ?_
          refine s_getF ok rfl rfl rfl rfl ?_
          refine s_ldI1 ok rfl ?_
          refine s_dup2 ok rfl ?_
          refine s_iald ok rfl (by exact rfl) (by exact rfl) (by omega) (by omega) ?_
          refine s_ci ok rfl ?_
          refine s_add ok rfl ?_
          refine s_iast ok rfl (by exact rfl) (by exact rfl) (by omega) (by omega) (fun q => by cases q) ?_
          refine s_retV ok rfl ⟨rfl, by rw [hs, if_neg (by omega), ← y6]; rfl⟩
        · refine s_retV ok rfl ⟨rfl, by rw [hs, if_pos (by omega)]⟩
  have K108 : ∀ (b4 b5 b6 b7 : Int), (b5 = 1 ∧ (0 < x % 3 ∧ zbt (h 72 p) (x - 1) = 1) ∨ b5 = 0 ∧ ¬ (0 < x % 3 ∧ zbt (h 72 p) (x - 1) = 1)) → (b7 = 1 ∧ ((pCm (h 60) p ≤ h 64 x) ∧ ((x % 3 = 0 ∧ zbt (h 60 1) (x / 3) = 0) ∨ (0 < x % 3 ∧ zbt (h 72 p) (x - 1) = 1)) ∧ ¬ pTk (h 60) p (x % 3) = 0) ∨ b7 = 0 ∧ ¬ ((pCm (h 60) p ≤ h 64 x) ∧ ((x % 3 = 0 ∧ zbt (h 60 1) (x / 3) = 0) ∨ (0 < x % 3 ∧ zbt (h 72 p) (x - 1) = 1)) ∧ ¬ pTk (h 60) p (x % 3) = 0)) → zGo E (d + 2) M_X12_tries 0 0 (zU (zJ (k, sTry x p h, r, l, n))) 108 ([some (.ref 59), some (.int (iI p)), some (.int (iI x)), some (.int (iI (x % 3))), some (.int (iI b4)), some (.int (iI b5)), some (.int (iI b6)), some (.int (iI b7)), none], [], zJ (k, h, r, l, n), 0, 0) := by
    intro b4 b5 b6 b7 hb5 hb7
    refine s_ldI7 ok rfl ?_
    refine s_if_eq ok rfl ⟨by omega, by omega⟩ (fun c110 => ?_) (fun c110 => ?_)
    · refine s_ldI7 ok rfl ?_
      refine s_if_eq ok rfl ⟨by omega, by omega⟩ (fun c189 => ?_) (fun c189 => ?_)
      · exact K202 b4 b5 b6 b7 none h rfl rfl rfl rfl hb5 (by unfold sTry; rw [if_neg (by omega)]; rw [if_neg (show ¬ ((pCm (h 60) p ≤ h 64 x) ∧ ((x % 3 = 0 ∧ zbt (h 60 1) (x / 3) = 0) ∨ (0 < x % 3 ∧ zbt (h 72 p) (x - 1) = 1)) ∧ ¬ pTk (h 60) p (x % 3) = 0) by omega)])
      · omega
    · refine s_ldA0 ok rfl ?_
      refine s_getF ok rfl rfl rfl rfl ?_
      refine s_ldI2 ok rfl ?_
      refine s_iald ok rfl (by exact rfl) (by exact rfl) (by omega) (by omega) ?_
      refine s_ldA0 ok rfl ?_
      refine s_ldI1 ok rfl ?_
      refine s_callV ok rfl rfl rfl rfl rfl rfl (ct_placesOf (by exact hp) p0 p1) ?_
      refine s_add ok rfl ?_
      refine s_ldA0 ok rfl ?_
      refine s_getF ok rfl rfl rfl rfl ?_
      refine s_ci ok rfl ?_
      refine s_ci ok rfl ?_
      refine s_ldI2 ok rfl ?_
      refine s_ci ok rfl ?_
      refine s_div ok rfl (by first | exact hb _ _ | exact ⟨by omega, by omega⟩) (by first | exact hb _ _ | exact ⟨by omega, by omega⟩) (by omega) (by omega) ?_
      refine s_mul ok rfl ?_
      refine s_add ok rfl ?_
      refine s_ci ok rfl ?_
      refine s_add ok rfl ?_
      refine s_iald ok rfl (by exact rfl) (by exact rfl) (by omega) (by omega) ?_
      refine s_c_gt ok rfl ⟨by omega, by omega⟩ ⟨by omega, by omega⟩ (fun c140 => ?_) (fun c140 => ?_)
      · refine s_ldI7 ok rfl ?_
        refine s_if_eq ok rfl ⟨by omega, by omega⟩ (fun c189 => ?_) (fun c189 => ?_)
        · omega
        · refine s_ldA0 ok rfl ?_
          refine s_getF ok rfl rfl rfl rfl ?_
          refine s_ldI1 ok rfl ?_
          refine s_dup2 ok rfl ?_
          refine s_iald ok rfl (by exact rfl) (by exact rfl) (by omega) (by omega) ?_
          refine s_ci ok rfl ?_
          refine s_add ok rfl ?_
          refine s_iast ok rfl (by exact rfl) (by exact rfl) (by omega) (by omega) (fun q => by cases q) ?_
          exact K202 b4 b5 b6 b7 none (zv h 74 p (h 74 p + 1)) rfl rfl rfl rfl hb5 (by unfold sTry; rw [if_neg (by omega)]; rw [if_pos (show ((pCm (h 60) p ≤ h 64 x) ∧ ((x % 3 = 0 ∧ zbt (h 60 1) (x / 3) = 0) ∨ (0 < x % 3 ∧ zbt (h 72 p) (x - 1) = 1)) ∧ ¬ pTk (h 60) p (x % 3) = 0) by omega)])
      · refine s_ldA0 ok rfl ?_
        refine s_getF ok rfl rfl rfl rfl ?_
        refine s_ldI1 ok rfl ?_
        refine s_ldI2 ok rfl ?_
        refine s_iast ok rfl (by exact rfl) (by exact rfl) (by omega) (by omega) (fun q => by cases q) ?_
        refine s_ldA0 ok rfl ?_
        refine s_getF ok rfl rfl rfl rfl ?_
        refine s_ldI1 ok rfl ?_
        refine s_ldA0 ok rfl ?_
        refine s_getF ok rfl rfl rfl rfl ?_
        refine s_ldI2 ok rfl ?_
        refine s_iald ok rfl (by exact rfl) (by exact rfl) (by omega) (by omega) ?_
        refine s_iast ok rfl (by exact rfl) (by exact rfl) (by omega) (by omega) (fun q => by cases q) ?_
        refine s_ldA0 ok rfl ?_
        refine s_getF ok rfl rfl rfl rfl ?_
        refine s_ldI2 ok rfl ?_
        refine s_dup2 ok rfl ?_
        refine s_iald ok rfl (by exact rfl) (by exact rfl) (by omega) (by omega) ?_
        refine s_ldA0 ok rfl ?_
        refine s_ldI1 ok rfl ?_
        refine s_callV ok rfl rfl rfl rfl rfl rfl (ct_placesOf (by exact hp) p0 p1) ?_
        refine s_add ok rfl ?_
        refine s_iast ok rfl (by exact rfl) (by exact rfl) (by omega) (by omega) (fun q => by cases q) ?_
        refine s_ldA0 ok rfl ?_
        refine s_dupA ok rfl ?_
        refine s_getJ 19 ok rfl rfl rfl rfl ?_
        refine s_ci ok rfl ?_
        refine s_add ok rfl ?_
        refine s_putJ 19 ok rfl rfl rfl rfl (fun q => by cases q) ?_
        refine s_retV ok rfl ⟨rfl, by unfold sTry; rw [if_pos ⟨by omega, by omega⟩]; rfl⟩
  have K82 : ∀ (b4 b5 b6 : Int), (b4 = 1 ∧ (pCm (h 60) p ≤ h 64 x) ∨ b4 = 0 ∧ ¬ (pCm (h 60) p ≤ h 64 x)) → (b5 = 1 ∧ (0 < x % 3 ∧ zbt (h 72 p) (x - 1) = 1) ∨ b5 = 0 ∧ ¬ (0 < x % 3 ∧ zbt (h 72 p) (x - 1) = 1)) → (b6 = 1 ∧ ((x % 3 = 0 ∧ zbt (h 60 1) (x / 3) = 0) ∨ (0 < x % 3 ∧ zbt (h 72 p) (x - 1) = 1)) ∨ b6 = 0 ∧ ¬ ((x % 3 = 0 ∧ zbt (h 60 1) (x / 3) = 0) ∨ (0 < x % 3 ∧ zbt (h 72 p) (x - 1) = 1))) → zGo E (d + 2) M_X12_tries 0 0 (zU (zJ (k, sTry x p h, r, l, n))) 82 ([some (.ref 59), some (.int (iI p)), some (.int (iI x)), some (.int (iI (x % 3))), some (.int (iI b4)), some (.int (iI b5)), some (.int (iI b6)), none, none], [], zJ (k, h, r, l, n), 0, 0) := by
    intro b4 b5 b6 hb4 hb5 hb6
    refine s_ldI4 ok rfl ?_
    refine s_if_eq ok rfl ⟨by omega, by omega⟩ (fun c84 => ?_) (fun c84 => ?_)
    · refine s_ci ok rfl ?_
      refine s_stI7 ok rfl rfl ?_
      exact K108 _ _ _ _ hb5 (by omega)
    · refine s_ldI6 ok rfl ?_
      refine s_if_eq ok rfl ⟨by omega, by omega⟩ (fun c89 => ?_) (fun c89 => ?_)
      · refine s_ci ok rfl ?_
        refine s_stI7 ok rfl rfl ?_
        exact K108 _ _ _ _ hb5 (by omega)
      · refine s_ldA0 ok rfl ?_
        refine s_ldI1 ok rfl ?_
        refine s_ldI3 ok rfl ?_
        refine s_callV ok rfl rfl rfl rfl rfl rfl (ct_wouldTake (by exact hp) p0 p1 (by omega) (by omega)) ?_
        refine s_if_eq ok rfl ⟨by omega, by omega⟩ (fun c98 => ?_) (fun c98 => ?_)
        · refine s_ci ok rfl ?_
          refine s_stI7 ok rfl rfl ?_
          exact K108 _ _ _ _ hb5 (by omega)
        · refine s_ci ok rfl ?_
          refine s_goto ok rfl ?_
          refine s_stI7 ok rfl rfl ?_
          exact K108 _ _ _ _ hb5 (by omega)
  have K51 : ∀ (b4 b5 : Int), (b4 = 1 ∧ (pCm (h 60) p ≤ h 64 x) ∨ b4 = 0 ∧ ¬ (pCm (h 60) p ≤ h 64 x)) → (b5 = 1 ∧ (0 < x % 3 ∧ zbt (h 72 p) (x - 1) = 1) ∨ b5 = 0 ∧ ¬ (0 < x % 3 ∧ zbt (h 72 p) (x - 1) = 1)) → zGo E (d + 2) M_X12_tries 0 0 (zU (zJ (k, sTry x p h, r, l, n))) 51 ([some (.ref 59), some (.int (iI p)), some (.int (iI x)), some (.int (iI (x % 3))), some (.int (iI b4)), some (.int (iI b5)), none, none, none], [], zJ (k, h, r, l, n), 0, 0) := by
    intro b4 b5 hb4 hb5
    refine s_ldI3 ok rfl ?_
    refine s_if_eq ok rfl ⟨by omega, by omega⟩ (fun c52 => ?_) (fun c52 => ?_)
    · refine s_ldA0 ok rfl ?_
      refine s_getF ok rfl rfl rfl rfl ?_
      refine s_ci ok rfl ?_
      refine s_iald ok rfl (by exact rfl) (by exact rfl) (by omega) (by omega) ?_
      refine s_ldI2 ok rfl ?_
      refine s_ci ok rfl ?_
      refine s_div ok rfl ⟨by omega, by omega⟩ ⟨by omega, by omega⟩ (by omega) (by omega) ?_
      refine s_callS ok rfl rfl rfl rfl (ct_has (by omega) (by omega) (by omega) (by omega)) ?_
      refine s_if_eq ok rfl ⟨by omega, by omega⟩ (fun c67 => ?_) (fun c67 => ?_)
      · refine s_ci ok rfl ?_
        refine s_goto ok rfl ?_
        refine s_stI6 ok rfl rfl ?_
        exact K82 _ _ _ hb4 hb5 (by omega)
      · refine s_ci ok rfl ?_
        refine s_goto ok rfl ?_
        refine s_stI6 ok rfl rfl ?_
        exact K82 _ _ _ hb4 hb5 (by omega)
    · refine s_ldI5 ok rfl ?_
      refine s_stI6 ok rfl rfl ?_
      exact K82 _ _ _ hb4 hb5 (by omega)
  have K25 : ∀ (b4 : Int), (b4 = 1 ∧ (pCm (h 60) p ≤ h 64 x) ∨ b4 = 0 ∧ ¬ (pCm (h 60) p ≤ h 64 x)) → zGo E (d + 2) M_X12_tries 0 0 (zU (zJ (k, sTry x p h, r, l, n))) 25 ([some (.ref 59), some (.int (iI p)), some (.int (iI x)), some (.int (iI (x % 3))), some (.int (iI b4)), none, none, none, none], [], zJ (k, h, r, l, n), 0, 0) := by
    intro b4 hb4
    refine s_ldI3 ok rfl ?_
    refine s_if_le ok rfl ⟨by omega, by omega⟩ (fun c26 => ?_) (fun c26 => ?_)
    · refine s_ci ok rfl ?_
      refine s_stI5 ok rfl rfl ?_
      exact K51 _ _ hb4 (by omega)
    · refine s_ldA0 ok rfl ?_
      refine s_getF ok rfl rfl rfl rfl ?_
      refine s_ldI1 ok rfl ?_
      refine s_iald ok rfl (by exact rfl) (by exact rfl) (by omega) (by omega) ?_
      refine s_ldI2 ok rfl ?_
      refine s_ci ok rfl ?_
      refine s_sub ok rfl ?_
      refine s_callS ok rfl rfl rfl rfl (ct_has (by omega) (by omega) (by omega) (by omega)) ?_
      refine s_if_eq ok rfl ⟨by omega, by omega⟩ (fun c41 => ?_) (fun c41 => ?_)
      · refine s_ci ok rfl ?_
        refine s_stI5 ok rfl rfl ?_
        exact K51 _ _ hb4 (by omega)
      · refine s_ci ok rfl ?_
        refine s_goto ok rfl ?_
        refine s_stI5 ok rfl rfl ?_
        exact K51 _ _ hb4 (by omega)
  refine zCT_of pn_X12_tries (Nat.le_of_ble_eq_true rfl) ?_
  show zGo _ _ _ _ _ _ 0 ([some (.ref 59), some (.int (iI p)), some (.int (iI x)), none, none, none, none, none, none], [], _, _, _)
  refine s_ldI2 ok rfl ?_
  refine s_ci ok rfl ?_
  refine s_rem ok rfl ⟨by omega, by omega⟩ ⟨by omega, by omega⟩ (by omega) (by omega) ?_
  refine s_stI3 ok rfl rfl ?_
  refine s_ldA0 ok rfl ?_
  refine s_ldI1 ok rfl ?_
  refine s_callV ok rfl rfl rfl rfl rfl rfl (ct_comesAt (by first | exact hp | exact hp1) p0 p1) ?_
  refine s_ldA0 ok rfl ?_
  refine s_getF ok rfl rfl rfl rfl ?_
  refine s_ldI2 ok rfl ?_
  refine s_iald ok rfl (by exact rfl) (by exact rfl) (by omega) (by omega) ?_
  refine s_c_gt ok rfl ⟨by omega, by omega⟩ ⟨by omega, by omega⟩ (fun c15 => ?_) (fun c15 => ?_)
  · refine s_ci ok rfl ?_
    refine s_stI4 ok rfl rfl ?_
    exact K25 _ (by omega)
  · refine s_ci ok rfl ?_
    refine s_goto ok rfl ?_
    refine s_stI4 ok rfl rfl ?_
    exact K25 _ (by omega)
