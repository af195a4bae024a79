/-! Bits as whole numbers; the reference's tests, who gets off -/
def z2 (k : Int) : Int := ((2 ^ k.toNat : Nat) : Int)
def zbt (m k : Int) : Int := m / z2 k % 2
def zsb (m k : Int) : Int := if zbt m k = 0 then m + z2 k else m
def zcb (m k : Int) : Int := if zbt m k = 0 then m else m - z2 k
def zxb (m k : Int) : Int := if zbt m k = 0 then m + z2 k else m - z2 k
theorem zn_or (a b : Nat) : nI a ||| nI b = nI (a ||| b) := by
  apply Int32.toBitVec_inj.1
  show BitVec.ofNat 32 a ||| BitVec.ofNat 32 b = BitVec.ofNat 32 (a ||| b)
  apply BitVec.eq_of_getLsbD_eq
  intro i hi
  simp [hi]
theorem zn_and (a b : Nat) : nI a &&& nI b = nI (a &&& b) := by
  apply Int32.toBitVec_inj.1
  show BitVec.ofNat 32 a &&& BitVec.ofNat 32 b = BitVec.ofNat 32 (a &&& b)
  apply BitVec.eq_of_getLsbD_eq
  intro i hi
  simp [hi]
theorem zn_xor (a b : Nat) : nI a ^^^ nI b = nI (a ^^^ b) := by
  apply Int32.toBitVec_inj.1
  show BitVec.ofNat 32 a ^^^ BitVec.ofNat 32 b = BitVec.ofNat 32 (a ^^^ b)
  apply BitVec.eq_of_getLsbD_eq
  intro i hi
  simp [hi]
def zbA (m k : Nat) : Nat := m / 2 ^ k % 2
def zbitN : Bool := (List.range 12).all fun k => (List.range 4096).all fun m =>
  Nat.beq (Nat.lor m (2 ^ k)) (bif Nat.beq (zbA m k) 0 then m + 2 ^ k else m) && (Nat.beq (Nat.xor m (2 ^ k)) (bif Nat.beq (zbA m k) 0 then m + 2 ^ k else m - 2 ^ k) && (Nat.ble (Nat.lor m (2 ^ k)) 4095 && (Nat.ble (Nat.xor m (2 ^ k)) 4095 && (Nat.beq (zbA m k) 0 || Nat.ble (2 ^ k) m))))
theorem zbitN_ok : zbitN = true := by decide +kernel
theorem zbit_nat {m k : Nat} (hm : m < 4096) (hk : k < 12) : (m ||| 2 ^ k) = (bif Nat.beq (zbA m k) 0 then m + 2 ^ k else m) ∧ (m ^^^ 2 ^ k) = (bif Nat.beq (zbA m k) 0 then m + 2 ^ k else m - 2 ^ k) ∧ (m ||| 2 ^ k) < 4096 ∧ (m ^^^ 2 ^ k) < 4096 ∧ (zbA m k = 0 ∨ 2 ^ k ≤ m) := by
  have h := List.all_eq_true.mp (List.all_eq_true.mp zbitN_ok k (List.mem_range.mpr hk)) m (List.mem_range.mpr hm)
  simp only [Bool.and_eq_true, Bool.or_eq_true] at h
  obtain ⟨h1, h2, h3, h4, h5⟩ := h
  refine ⟨Nat.eq_of_beq_eq_true h1, Nat.eq_of_beq_eq_true h2, ?_, ?_, ?_⟩
  · have h9 : (m ||| 2 ^ k) ≤ 4095 := Nat.le_of_ble_eq_true h3
    exact Nat.lt_succ_of_le h9
  · have h9 : (m ^^^ 2 ^ k) ≤ 4095 := Nat.le_of_ble_eq_true h4
    exact Nat.lt_succ_of_le h9
  · rcases h5 with h5 | h5
    · exact Or.inl (Nat.eq_of_beq_eq_true h5)
    · exact Or.inr (Nat.le_of_ble_eq_true h5)
theorem zbt_nat (m k : Nat) : zbt m k = ((zbA m k : Nat) : Int) := rfl
theorem z2_nat (k : Nat) : iI (z2 k) = nI (2 ^ k) := by rw [iI_nat]; rfl
theorem zbt_01 (m k : Int) : zbt m k = 0 ∨ zbt m k = 1 := by unfold zbt; omega
theorem zob {m k : Int} (m0 : 0 ≤ m) (m1 : m < 4096) (k0 : 0 ≤ k) (k1 : k < 12) : (iI m ||| iI (z2 k)) = iI (zsb m k) ∧ (iI m ^^^ iI (z2 k)) = iI (zxb m k) ∧ (0 ≤ zsb m k ∧ zsb m k < 4096) ∧ (0 ≤ zxb m k ∧ zxb m k < 4096) := by
  obtain ⟨M, rfl⟩ : ∃ M : Nat, m = M := ⟨m.toNat, by omega⟩
  obtain ⟨K, rfl⟩ : ∃ K : Nat, k = K := ⟨k.toNat, by omega⟩
  obtain ⟨h1, h2, h3, h4, h5⟩ := zbit_nat (m := M) (k := K) (by omega) (by omega)
  have e1 : zsb M K = ((M ||| 2 ^ K : Nat) : Int) := by
    unfold zsb
    rw [h1, zbt_nat]
    have e2 : z2 (K : Int) = ((2 ^ K : Nat) : Int) := rfl
    rw [e2]
    by_cases q : zbA M K = 0
    · rw [q]; simp
    · have q2 : Nat.beq (zbA M K) 0 = false := by cases e : Nat.beq (zbA M K) 0; rfl; exact absurd (Nat.eq_of_beq_eq_true e) q
      rw [q2, if_neg (by omega)]
      rfl
  have e3 : zxb M K = ((M ^^^ 2 ^ K : Nat) : Int) := by
    unfold zxb
    rw [h2, zbt_nat]
    have e2 : z2 (K : Int) = ((2 ^ K : Nat) : Int) := rfl
    rw [e2]
    by_cases q : zbA M K = 0
    · rw [q]; simp
    · have q2 : Nat.beq (zbA M K) 0 = false := by cases e : Nat.beq (zbA M K) 0; rfl; exact absurd (Nat.eq_of_beq_eq_true e) q
      rw [q2, if_neg (by omega)]
      have := h5.resolve_left q
      show _ = ((M - 2 ^ K : Nat) : Int)
      omega
  refine ⟨?_, ?_, ?_, ?_⟩
  · rw [e1, ← iI_nat, ← iI_nat, z2_nat, zn_or]
  · rw [e3, ← iI_nat, ← iI_nat, z2_nat, zn_xor]
  · rw [e1]; omega
  · rw [e3]; omega
theorem zshl {k : Int} (k0 : 0 ≤ k) (k1 : k < 12) : iI 1 <<< (iI k &&& 31) = iI (z2 k) := by
  have h : ∀ j, j < 12 → iI 1 <<< (iI (j : Nat) &&& 31) = iI (z2 (j : Nat)) := by decide +kernel
  have e : ((k.toNat : Nat) : Int) = k := by omega
  rw [← e]
  exact h k.toNat (by omega)
theorem zshr {m k : Int} (m0 : 0 ≤ m) (m1 : m < 4096) (k0 : 0 ≤ k) (k1 : k < 12) : iI m >>> (iI k &&& 31) = iI (m / z2 k) ∧ (iI (m / z2 k) &&& iI 1) = iI (zbt m k) := by
  obtain ⟨M, rfl⟩ : ∃ M : Nat, m = M := ⟨m.toNat, by omega⟩
  obtain ⟨K, rfl⟩ : ∃ K : Nat, k = K := ⟨k.toNat, by omega⟩
  have hs : ∀ j, j < 12 → ((nI j &&& 31).toBitVec.smod 32).toNat = j := by decide +kernel
  have hle : M / 2 ^ K ≤ M := Nat.div_le_self _ _
  have e0 : ((M : Int) / z2 (K : Int)) = ((M / 2 ^ K : Nat) : Int) := rfl
  refine ⟨?_, ?_⟩
  · rw [e0]
    simp only [← iI_nat]
    rw [pk_shrN (n := M) (by omega) _ K (hs K (by omega))]
  · rw [e0, zbt_nat, ← iI_nat, ← iI_nat, pk_andN (by omega) 1 (by decide)]
    rfl
theorem ct_has {E : zE} {d : Nat} {k : Nat → Nat × Nat} {h : Nat → Int → Int} {r : Nat → Int → Option Nat} {l : Nat → Nat → Int64} {n : Nat} {m k9 : Int} (m0 : 0 ≤ m) (m1 : m < 4096) (k0 : 0 ≤ k9) (k1 : k9 < 12) : zCT E d M_X12_has [.int (iI m), .int (iI k9)] (zJ (k, h, r, l, n)) 0 0 (zV (.int (iI (zbt m k9))) (zJ (k, h, r, l, n))) := by
  have ok := ok_X12_has
  refine zCT_of pn_X12_has (Nat.le_of_ble_eq_true rfl) ?_
  show zGo _ _ _ _ _ _ 0 ([some (.int (iI m)), some (.int (iI k9))], [], _, _, _)
  obtain ⟨e9, f9⟩ := zshr m0 m1 k0 k1
  have b9 := zbt_01 m k9
  refine s_ldI0 ok rfl ?_
  refine s_ldI1 ok rfl ?_
  refine s_bin ok rfl e9 ?_
  refine s_ci ok rfl ?_
  refine s_bin ok rfl f9 ?_
  refine s_ci ok rfl ?_
  refine s_c_eq ok rfl (by first | exact hb _ _ | exact ⟨by omega, by omega⟩) (by first | exact hb _ _ | exact ⟨by omega, by omega⟩) (fun c6 => ?_) (fun c6 => ?_)
  · refine s_ci ok rfl ?_
    refine s_goto ok rfl ?_
    refine s_retZ ok rfl (by first | exact Or.inl rfl | exact Or.inr rfl) ⟨congrArg (fun z => some (Value.int (iI z))) (by omega), rfl⟩
  · refine s_ci ok rfl ?_
    refine s_retZ ok rfl (by first | exact Or.inl rfl | exact Or.inr rfl) ⟨congrArg (fun z => some (Value.int (iI z))) (by omega), rfl⟩
theorem ct_isTraveller {E : zE} {d : Nat} {k : Nat → Nat × Nat} {h : Nat → Int → Int} {r : Nat → Int → Option Nat} {l : Nat → Nat → Int64} {n : Nat} (hp : pOK (h 60)) {t : Int} (ht : zb t) : zCT E (d + 1) M_X12_isTraveller [.ref 59, .int (iI t)] (zJ (k, h, r, l, n)) 0 0 (zV (.int (iI (if 0 ≤ t ∧ t < h 60 6 then 1 else 0))) (zJ (k, h, r, l, n))) := by
  have ok := ok_X12_isTraveller
  refine zCT_of pn_X12_isTraveller (Nat.le_of_ble_eq_true rfl) ?_
  show zGo _ _ _ _ _ _ 0 ([some (.ref 59), some (.int (iI t))], [], _, _, _)
  have hm := hp.2.2.2.2.2.2.2.2.2.2.2.2.1
  have hm8 := hp.2.2.2.2.2.2.2.2.2.2.2.2.2.1
  refine s_ldI1 ok rfl ?_
  refine s_ci ok rfl ?_
  refine s_ldA0 ok rfl ?_
  refine s_getF ok rfl rfl rfl rfl ?_
  refine s_ci ok rfl ?_
  refine s_iald ok rfl (by exact rfl) (by exact rfl) (by omega) (by omega) ?_
  refine s_ci ok rfl ?_
  refine s_sub ok rfl ?_
  refine s_callS ok rfl rfl rfl rfl (ct_isIn (by first | assumption | exact ⟨by omega, by omega⟩) ⟨by omega, by omega⟩ ⟨by omega, by omega⟩) ?_
  refine s_retZ ok rfl (by first | exact Or.inl rfl | exact Or.inr rfl | (split <;> first | exact Or.inl rfl | exact Or.inr rfl)) ⟨congrArg (fun z => some (Value.int (iI z))) (by split <;> first | rw [if_pos (by omega)] | rw [if_neg (by omega)]), rfl⟩
theorem ct_isTrain {E : zE} {d : Nat} {k : Nat → Nat × Nat} {h : Nat → Int → Int} {r : Nat → Int → Option Nat} {l : Nat → Nat → Int64} {n : Nat} (hp : pOK (h 60)) {t : Int} (ht : zb t) : zCT E (d + 1) M_X12_isTrain [.ref 59, .int (iI t)] (zJ (k, h, r, l, n)) 0 0 (zV (.int (iI (if 0 ≤ t ∧ t < h 60 0 then 1 else 0))) (zJ (k, h, r, l, n))) := by
  have ok := ok_X12_isTrain
  refine zCT_of pn_X12_isTrain (Nat.le_of_ble_eq_true rfl) ?_
  show zGo _ _ _ _ _ _ 0 ([some (.ref 59), some (.int (iI t))], [], _, _, _)
  have hm := hp.1
  have hm8 := hp.2.1
  refine s_ldI1 ok rfl ?_
  refine s_ci ok rfl ?_
  refine s_ldA0 ok rfl ?_
  refine s_getF ok rfl rfl rfl rfl ?_
  refine s_ci ok rfl ?_
  refine s_iald ok rfl (by exact rfl) (by exact rfl) (by omega) (by omega) ?_
  refine s_ci ok rfl ?_
  refine s_sub ok rfl ?_
  refine s_callS ok rfl rfl rfl rfl (ct_isIn (by first | assumption | exact ⟨by omega, by omega⟩) ⟨by omega, by omega⟩ ⟨by omega, by omega⟩) ?_
  refine s_retZ ok rfl (by first | exact Or.inl rfl | exact Or.inr rfl | (split <;> first | exact Or.inl rfl | exact Or.inr rfl)) ⟨congrArg (fun z => some (Value.int (iI z))) (by split <;> first | rw [if_pos (by omega)] | rw [if_neg (by omega)]), rfl⟩
theorem ct_isDepth {E : zE} {d : Nat} {k : Nat → Nat × Nat} {h : Nat → Int → Int} {r : Nat → Int → Option Nat} {l : Nat → Nat → Int64} {n : Nat} {t : Int} (ht : zb t) : zCT E (d + 1) M_X12_isDepth [.int (iI t)] (zJ (k, h, r, l, n)) 0 0 (zV (.int (iI (if 0 ≤ t ∧ t < 3 then 1 else 0))) (zJ (k, h, r, l, n))) := by
  have ok := ok_X12_isDepth
  refine zCT_of pn_X12_isDepth (Nat.le_of_ble_eq_true rfl) ?_
  show zGo _ _ _ _ _ _ 0 ([some (.int (iI t))], [], _, _, _)
  refine s_ldI0 ok rfl ?_
  refine s_ci ok rfl ?_
  refine s_ci ok rfl ?_
  refine s_callS ok rfl rfl rfl rfl (ct_isIn (by first | assumption | exact ⟨by omega, by omega⟩) ⟨by omega, by omega⟩ ⟨by omega, by omega⟩) ?_
  refine s_retZ ok rfl (by first | exact Or.inl rfl | exact Or.inr rfl | (split <;> first | exact Or.inl rfl | exact Or.inr rfl)) ⟨congrArg (fun z => some (Value.int (iI z))) (by split <;> first | rw [if_pos (by omega)] | rw [if_neg (by omega)]), rfl⟩
theorem ct_isShelf {E : zE} {d : Nat} {k : Nat → Nat × Nat} {h : Nat → Int → Int} {r : Nat → Int → Option Nat} {l : Nat → Nat → Int64} {n : Nat} {t : Int} (ht : zb t) : zCT E (d + 1) M_X12_isShelf [.int (iI t)] (zJ (k, h, r, l, n)) 0 0 (zV (.int (iI (if 0 ≤ t ∧ t < 8 then 1 else 0))) (zJ (k, h, r, l, n))) := by
  have ok := ok_X12_isShelf
  refine zCT_of pn_X12_isShelf (Nat.le_of_ble_eq_true rfl) ?_
  show zGo _ _ _ _ _ _ 0 ([some (.int (iI t))], [], _, _, _)
  refine s_ldI0 ok rfl ?_
  refine s_ci ok rfl ?_
  refine s_ci ok rfl ?_
  refine s_callS ok rfl rfl rfl rfl (ct_isIn (by first | assumption | exact ⟨by omega, by omega⟩) ⟨by omega, by omega⟩ ⟨by omega, by omega⟩) ?_
  refine s_retZ ok rfl (by first | exact Or.inl rfl | exact Or.inr rfl | (split <;> first | exact Or.inl rfl | exact Or.inr rfl)) ⟨congrArg (fun z => some (Value.int (iI z))) (by split <;> first | rw [if_pos (by omega)] | rw [if_neg (by omega)]), rfl⟩
abbrev pAh (p : Int → Int) (a b : Int) : Prop := pRk p a < pRk p b ∨ (pRk p a = pRk p b ∧ (pCm p a < pCm p b ∨ (pCm p a = pCm p b ∧ a < b)))
theorem pRk_b (p : Int → Int) (t : Int) : 0 ≤ pRk p t ∧ pRk p t ≤ 3 := by unfold pRk kRk; split <;> (try split) <;> (try split) <;> omega
theorem pCm_b {p : Int → Int} (hp : pOK p) {t : Int} (h0 : 0 ≤ t) (h1 : t < 8) : 0 ≤ pCm p t ∧ pCm p t ≤ 400 := by
  obtain ⟨⟨k0, k1⟩, ⟨f0, f1⟩, ⟨r0, r1⟩, ⟨t0, t1⟩, ⟨b0, b1⟩⟩ := hp.2.2.2.2.2.2.2.2.2.2.2.2.2.2.2.2 t h0 h1
  unfold pCm kCm
  omega
theorem pPl_b (p : Int → Int) (t : Int) : 1 ≤ pPl p t ∧ pPl p t ≤ 2 := by unfold pPl kPl; split <;> omega
theorem pEx_b {p : Int → Int} (hp : pOK p) {t : Int} (h0 : 0 ≤ t) (h1 : t < 8) : 0 ≤ pEx p t ∧ pEx p t ≤ 20 := by
  obtain ⟨⟨k0, k1⟩, ⟨f0, f1⟩, ⟨r0, r1⟩, ⟨t0, t1⟩, ⟨b0, b1⟩⟩ := hp.2.2.2.2.2.2.2.2.2.2.2.2.2.2.2.2 t h0 h1
  unfold pEx kEx
  omega
theorem pOf_b {p : Int → Int} (hp : pOK p) {t : Int} (h0 : 0 ≤ t) (h1 : t < 8) : 0 ≤ pOf p t ∧ pOf p t ≤ 5 := by
  obtain ⟨⟨k0, k1⟩, ⟨f0, f1⟩, ⟨r0, r1⟩, ⟨t0, t1⟩, ⟨b0, b1⟩⟩ := hp.2.2.2.2.2.2.2.2.2.2.2.2.2.2.2.2 t h0 h1
  unfold pOf kOf
  omega
theorem pTk_01 (p : Int → Int) (t d : Int) : pTk p t d = 0 ∨ pTk p t d = 1 := by unfold pTk kTk; split <;> omega
theorem ct_isAskedAhead {E : zE} {d : Nat} {k : Nat → Nat × Nat} {h : Nat → Int → Int} {r : Nat → Int → Option Nat} {l : Nat → Nat → Int64} {n : Nat} (hp : pOK (h 60)) {a b : Int} (a0 : 0 ≤ a) (a1 : a < 8) (b0 : 0 ≤ b) (b1 : b < 8) : zCT E (d + 2) M_X12_isAskedAhead [.ref 59, .int (iI a), .int (iI b)] (zJ (k, h, r, l, n)) 0 0 (zV (.int (iI (if pAh (h 60) a b then 1 else 0))) (zJ (k, h, r, l, n))) := by
  have ok := ok_X12_isAskedAhead
  refine zCT_of pn_X12_isAskedAhead (Nat.le_of_ble_eq_true rfl) ?_
  show zGo _ _ _ _ _ _ 0 ([some (.ref 59), some (.int (iI a)), some (.int (iI b))], [], _, _, _)
  have q1 := pRk_b (h 60) a
  have q2 := pRk_b (h 60) b
  have q3 := pCm_b hp a0 a1
  have q4 := pCm_b hp b0 b1
  refine s_ldA0 ok rfl ?_
  refine s_ldI1 ok rfl ?_
  refine s_callV ok rfl rfl rfl rfl rfl rfl (ct_rankOf hp (by assumption) (by assumption)) ?_
  refine s_ldA0 ok rfl ?_
  refine s_ldI2 ok rfl ?_
  refine s_callV ok rfl rfl rfl rfl rfl rfl (ct_rankOf hp (by assumption) (by assumption)) ?_
  refine s_c_eq ok rfl ⟨by omega, by omega⟩ ⟨by omega, by omega⟩ (fun c10 => ?_) (fun c10 => ?_)
  · refine s_ldA0 ok rfl ?_
    refine s_ldI1 ok rfl ?_
    refine s_callV ok rfl rfl rfl rfl rfl rfl (ct_comesAt hp (by assumption) (by assumption)) ?_
    refine s_ldA0 ok rfl ?_
    refine s_ldI2 ok rfl ?_
    refine s_callV ok rfl rfl rfl rfl rfl rfl (ct_comesAt hp (by assumption) (by assumption)) ?_
    refine s_c_lt ok rfl ⟨by omega, by omega⟩ ⟨by omega, by omega⟩ (fun c42 => ?_) (fun c42 => ?_)
    · refine s_ci ok rfl ?_
      refine s_goto ok rfl ?_
      refine s_retZ ok rfl (by first | exact Or.inl rfl | exact Or.inr rfl) ⟨congrArg (fun z => some (Value.int (iI z))) (by first | rw [if_pos (by omega)] | rw [if_neg (by omega)]), rfl⟩
    · refine s_ldA0 ok rfl ?_
      refine s_ldI1 ok rfl ?_
      refine s_callV ok rfl rfl rfl rfl rfl rfl (ct_comesAt hp (by assumption) (by assumption)) ?_
      refine s_ldA0 ok rfl ?_
      refine s_ldI2 ok rfl ?_
      refine s_callV ok rfl rfl rfl rfl rfl rfl (ct_comesAt hp (by assumption) (by assumption)) ?_
      refine s_c_eq ok rfl ⟨by omega, by omega⟩ ⟨by omega, by omega⟩ (fun c55 => ?_) (fun c55 => ?_)
      · refine s_ldI1 ok rfl ?_
        refine s_ldI2 ok rfl ?_
        refine s_c_ge ok rfl ⟨by omega, by omega⟩ ⟨by omega, by omega⟩ (fun c60 => ?_) (fun c60 => ?_)
        · refine s_ci ok rfl ?_
          refine s_retZ ok rfl (by first | exact Or.inl rfl | exact Or.inr rfl) ⟨congrArg (fun z => some (Value.int (iI z))) (by first | rw [if_pos (by omega)] | rw [if_neg (by omega)]), rfl⟩
        · refine s_ci ok rfl ?_
          refine s_goto ok rfl ?_
          refine s_retZ ok rfl (by first | exact Or.inl rfl | exact Or.inr rfl) ⟨congrArg (fun z => some (Value.int (iI z))) (by first | rw [if_pos (by omega)] | rw [if_neg (by omega)]), rfl⟩
      · refine s_ci ok rfl ?_
        refine s_retZ ok rfl (by first | exact Or.inl rfl | exact Or.inr rfl) ⟨congrArg (fun z => some (Value.int (iI z))) (by first | rw [if_pos (by omega)] | rw [if_neg (by omega)]), rfl⟩
  · refine s_ldA0 ok rfl ?_
    refine s_ldI1 ok rfl ?_
    refine s_callV ok rfl rfl rfl rfl rfl rfl (ct_rankOf hp (by assumption) (by assumption)) ?_
    refine s_ldA0 ok rfl ?_
    refine s_ldI2 ok rfl ?_
    refine s_callV ok rfl rfl rfl rfl rfl rfl (ct_rankOf hp (by assumption) (by assumption)) ?_
    refine s_c_ge ok rfl ⟨by omega, by omega⟩ ⟨by omega, by omega⟩ (fun c23 => ?_) (fun c23 => ?_)
    · refine s_ci ok rfl ?_
      refine s_retZ ok rfl (by first | exact Or.inl rfl | exact Or.inr rfl) ⟨congrArg (fun z => some (Value.int (iI z))) (by first | rw [if_pos (by omega)] | rw [if_neg (by omega)]), rfl⟩
    · refine s_ci ok rfl ?_
      refine s_goto ok rfl ?_
      refine s_retZ ok rfl (by first | exact Or.inl rfl | exact Or.inr rfl) ⟨congrArg (fun z => some (Value.int (iI z))) (by first | rw [if_pos (by omega)] | rw [if_neg (by omega)]), rfl⟩
def sGO1 (x p : Int) (h : Nat → Int → Int) : Nat → Int → Int := if h 69 p = x ∧ h 71 p < 0 ∧ pOf (h 60) p = h 63 x then zv (zv (zv h 71 p (h 64 x)) 65 x (h 65 x - pPl (h 60) p)) 59 19 (h 59 19 + 1) else h
abbrev sGO (x : Int) (h : Nat → Int → Int) (c : Nat) : Nat → Int → Int := zfo (sGO1 x) h c
def iGO (h g : Nat → Int → Int) : Prop := g 60 = h 60 ∧ g 69 = h 69 ∧ g 63 = h 63 ∧ g 64 = h 64 ∧ ∀ j, zb (g 71 j)
theorem iGO_ok {x : Int} {h : Nat → Int → Int} (h4 : zb (h 64 x)) (h1 : ∀ j, zb (h 71 j)) (c : Nat) : iGO h (sGO x h c) := by
  refine zfo_inv (iGO h) ⟨rfl, rfl, rfl, rfl, h1⟩ ?_ c
  intro p s ⟨i1, i2, i3, i4, i5⟩
  unfold sGO1
  split
  · refine ⟨i1, i2, i3, i4, fun j => ?_⟩
    show zb (zv s 71 p (s 64 x) 71 j)
    rw [zv_eq]
    split
    · rw [i4]; exact h4
    · exact i5 j
  · exact ⟨i1, i2, i3, i4, i5⟩
theorem lp_getsOff {E : zE} {d : Nat} {k : Nat → Nat × Nat} {h : Nat → Int → Int} {r : Nat → Int → Option Nat} {l : Nat → Nat → Int64} {n : Nat} {Q : zQ} (hp : pOK (h 60)) {x : Int} (x0 : 0 ≤ x) (x1 : x < 12) (h3 : zb (h 63 x)) (h4 : zb (h 64 x)) (h9 : ∀ j, zb (h 69 j)) (h1 : ∀ j, zb (h 71 j)) {np : Nat} (hn : h 60 6 = np) (hn8 : np ≤ 8) (hQ : Q none (zJ (k, sGO x h np, r, l, n))) : ∀ c : Nat, ∀ p : Nat, np < p + c → p ≤ np → zGo E (d + 2) M_X12_getsOff 0 0 Q 2 ([some (.ref 59), some (.int (iI x)), some (.int (iI (p : Int)))], [], zJ (k, sGO x h p, r, l, n), 0, 0) := by
  have ok := ok_X12_getsOff
  intro c
  induction c with
  | zero =>
    intros
    omega
  | succ c ih =>
    intro p g1 g2
    obtain ⟨i1, i2, i3, i4, i5⟩ := iGO_ok (x := x) h4 h1 p
    generalize eg : sGO x h p = g at *
    have e6 : g 60 6 = np := by rw [i1]; exact hn
    have e69 : g 69 p = h 69 p := by rw [i2]
    have z69 := h9 p
    have z71 := i5 p
    have e63 : g 63 x = h 63 x := by rw [i3]
    refine s_ldI2 ok rfl ?_
    refine s_ldA0 ok rfl ?_
    refine s_getF ok rfl rfl rfl rfl ?_
    refine s_ci ok rfl ?_
    refine s_iald ok rfl (by exact rfl) (by exact rfl) (by omega) (by omega) ?_
    refine s_c_ge ok rfl ⟨by omega, by omega⟩ ⟨by omega, by omega⟩ (fun c10 => ?_) (fun c10 => ?_)
    · refine s_retV ok rfl (by rw [← eg, show p = np by omega]; exact hQ)
    · refine s_ldA0 ok rfl ?_
      refine s_getF ok rfl rfl rfl rfl ?_
      refine s_ldI2 ok rfl ?_
      refine s_iald ok rfl (by exact rfl) (by exact rfl) (by omega) (by omega) ?_
      refine s_ldI1 ok rfl ?_
      refine s_c_eq ok rfl (by rw [e69]; exact z69) ⟨by omega, by omega⟩ (fun c20 => ?_) (fun c20 => ?_)
      · refine s_ldA0 ok rfl ?_
        refine s_getF ok rfl rfl rfl rfl ?_
        refine s_ldI2 ok rfl ?_
        refine s_iald ok rfl (by exact rfl) (by exact rfl) (by omega) (by omega) ?_
        refine s_if_ge ok rfl z71 (fun c29 => ?_) (fun c29 => ?_)
        · refine s_inc2 ok rfl rfl ?_
          refine s_goto ok rfl ?_
          refine zgo_eq ?_ (ih (p + 1) (by omega) (by omega))
          show _ = (_, _, zJ (k, sGO1 x p (sGO x h p), r, l, n), _, _)
          rw [eg]
          unfold sGO1
          first | rw [if_pos ⟨by omega, by omega, by omega⟩] | rw [if_neg (by omega)]
          rfl
        · refine s_ldA0 ok rfl ?_
          refine s_ldI2 ok rfl ?_
          refine s_callV ok rfl rfl rfl rfl rfl rfl (ct_offOf (by rw [i1]; exact hp) (by omega) (by omega)) ?_
          refine s_ldA0 ok rfl ?_
          refine s_getF ok rfl rfl rfl rfl ?_
          refine s_ldI1 ok rfl ?_
          refine s_iald ok rfl (by exact rfl) (by exact rfl) (by omega) (by omega) ?_
          refine s_c_eq ok rfl (by have := pOf_b hp (t := p) (by omega) (by omega); rw [i1]; exact ⟨by omega, by omega⟩) (by rw [e63]; exact h3) (fun c43 => ?_) (fun c43 => ?_)
          · refine s_ldA0 ok rfl ?_
            refine s_getF ok rfl rfl rfl rfl ?_
            refine s_ldI2 ok rfl ?_
            refine s_ldA0 ok rfl ?_
            refine s_getF ok rfl rfl rfl rfl ?_
            refine s_ldI1 ok rfl ?_
            refine s_iald ok rfl (by exact rfl) (by exact rfl) (by omega) (by omega) ?_
            refine s_iast ok rfl (by exact rfl) (by exact rfl) (by omega) (by omega) (fun q => by cases q) ?_
            refine s_ldA0 ok rfl ?_
            refine s_getF ok rfl rfl rfl rfl ?_
            refine s_ldI1 ok rfl ?_
            refine s_dup2 ok rfl ?_
            refine s_iald ok rfl (by exact rfl) (by exact rfl) (by omega) (by omega) ?_
            refine s_ldA0 ok rfl ?_
            refine s_ldI2 ok rfl ?_
            refine s_callV ok rfl rfl rfl rfl rfl rfl (ct_placesOf (h := zv g 71 p (g 64 x)) (by show pOK (g 60); rw [i1]; exact hp) (by omega) (by omega)) ?_
            refine s_sub ok rfl ?_
            refine s_iast ok rfl (by exact rfl) (by exact rfl) (by omega) (by omega) (fun q => by cases q) ?_
            refine s_ldA0 ok rfl ?_
            refine s_dupA ok rfl ?_
            refine s_getJ 19 ok rfl rfl rfl rfl ?_
            refine s_ci ok rfl ?_
            refine s_add ok rfl ?_
            refine s_putJ 19 ok rfl rfl rfl rfl (fun q => by cases q) ?_
            refine s_inc2 ok rfl rfl ?_
            refine s_goto ok rfl ?_
            refine zgo_eq ?_ (ih (p + 1) (by omega) (by omega))
            show _ = (_, _, zJ (k, sGO1 x p (sGO x h p), r, l, n), _, _)
            rw [eg]
            unfold sGO1
            first | rw [if_pos ⟨by omega, by omega, by omega⟩] | rw [if_neg (by omega)]
            rfl
          · refine s_goto ok rfl ?_
            refine s_inc2 ok rfl rfl ?_
            refine s_goto ok rfl ?_
            refine zgo_eq ?_ (ih (p + 1) (by omega) (by omega))
            show _ = (_, _, zJ (k, sGO1 x p (sGO x h p), r, l, n), _, _)
            rw [eg]
            unfold sGO1
            first | rw [if_pos ⟨by omega, by omega, by omega⟩] | rw [if_neg (by omega)]
            rfl
      · refine s_inc2 ok rfl rfl ?_
        refine s_goto ok rfl ?_
        refine zgo_eq ?_ (ih (p + 1) (by omega) (by omega))
        show _ = (_, _, zJ (k, sGO1 x p (sGO x h p), r, l, n), _, _)
        rw [eg]
        unfold sGO1
        first | rw [if_pos ⟨by omega, by omega, by omega⟩] | rw [if_neg (by omega)]
        rfl
theorem ct_getsOff {E : zE} {d : Nat} {k : Nat → Nat × Nat} {h : Nat → Int → Int} {r : Nat → Int → Option Nat} {l : Nat → Nat → Int64} {n : Nat} (hp : pOK (h 60)) {x : Int} (x0 : 0 ≤ x) (x1 : x < 12) (h3 : zb (h 63 x)) (h4 : zb (h 64 x)) (h9 : ∀ j, zb (h 69 j)) (h1 : ∀ j, zb (h 71 j)) {np : Nat} (hn : h 60 6 = np) (hn8 : np ≤ 8) : zCT E (d + 2) M_X12_getsOff [.ref 59, .int (iI x)] (zJ (k, h, r, l, n)) 0 0 (zU (zJ (k, sGO x h np, r, l, n))) := by
  have ok := ok_X12_getsOff
  refine zCT_of pn_X12_getsOff (Nat.le_of_ble_eq_true rfl) ?_
  show zGo _ _ _ _ _ _ 0 ([some (.ref 59), some (.int (iI x)), none], [], _, _, _)
  refine s_ci ok rfl ?_
  refine s_stI2 ok rfl rfl ?_
  exact lp_getsOff hp x0 x1 h3 h4 h9 h1 hn hn8 ⟨rfl, rfl⟩ (np + 1) 0 (by omega) (by omega)
