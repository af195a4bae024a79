/-! travellers are made; a statement is told -/
/-- but for the name n nothing differs -/
def gN (n : Nat) (k : Nat → Nat × Nat) (h : Nat → Int → Int) (r : Nat → Int → Option Nat) (l : Nat → Nat → Int64) (k' : Nat → Nat × Nat) (h' : Nat → Int → Int) (r' : Nat → Int → Option Nat) (l' : Nat → Nat → Int64) : Prop := ∀ a, a ≠ n → k' a = k a ∧ h' a = h a ∧ r' a = r a ∧ l' a = l a
def kN' (k : Nat → Nat × Nat) (n : Nat) (q : Nat × Nat) : Nat → Nat × Nat := fun a => if a = n then q else k a
def hN' {α β : Type} (h : Nat → α → β) (n : Nat) (z : β) : Nat → α → β := fun a j => if a = n then z else h a j
theorem zkF_N {k : Nat → Nat × Nat} {n : Nat} {q : Nat × Nat} (hn : 87 ≤ n) (a : Nat) : zkF (kN' k n q) a = if a = n then q else zkF k a := by
  unfold zkF kN'
  by_cases e : a = n
  · have : (Nat.ble a 86 && Nat.ble 3 a) = false := by
      cases x : Nat.ble a 86
      · rfl
      · have := Nat.le_of_ble_eq_true x
        omega
    rw [this]
    rfl
  · rw [if_neg e, if_neg e]
theorem zrF_N {r : Nat → Int → Option Nat} {n : Nat} (hn : 87 ≤ n) (a j : Nat) : zrF (hN' r n none) a j = if a = n then none else zrF r a j := by
  unfold zrF hN'
  by_cases e : a = n
  · have : zfin a = false := by
      unfold zfin
      have b : ∀ m, a ≠ m → Nat.beq a m = false := fun m hm => by
        cases x : Nat.beq a m
        · rfl
        · exact absurd (Nat.eq_of_beq_eq_true x) hm
      rw [b 3 (by omega), b 4 (by omega), b 15 (by omega), b 26 (by omega), b 37 (by omega), b 59 (by omega)]
      rfl
    rw [this]
    rfl
  · rw [if_neg e, if_neg e]
section ZM
variable {E : zE} {d mc ms : Nat} {M : zM} {P : Nat → zOp} {Q : zQ} {pc nx bc bs : Nat} {ls : List (Option Value)} {st : List Value} {σ : zS} {k : Nat → Nat × Nat} {h : Nat → Int → Int} {r : Nat → Int → Option Nat} {l : Nat → Nat → Int64} {n : Nat}
theorem s_newJ (ok : zOK M P) {ci N : Nat} (hn : 87 ≤ n) (hP : P pc = oNew ci N nx) (h1 : 1 ≤ bc) (h2 : N ≤ bs) (hk : zGo E d M mc ms Q nx (ls, .ref n :: st, zJ (kN' k n (ci, N), hN' h n 0, hN' r n none, hN' l n 0, n + 1), bc - 1, bs - N)) : zGo E d M mc ms Q pc (ls, st, zJ (k, h, r, l, n), bc, bs) := by
  refine zstep ok hP ⟨h1, h2, ?_⟩
  have e : zNew (zJ (k, h, r, l, n)) (ci, N) = zJ (kN' k n (ci, N), hN' h n 0, hN' r n none, hN' l n 0, n + 1) := by
    show ((fun a => if a = n then (ci, N) else zkF k a), (fun (a j : Nat) => if a = n then (0 : Int32) else iI (h a (j : Int))), (fun (a j : Nat) => if a = n then none else zrF r a j), (fun (a j : Nat) => if a = n then (0 : Int64) else l a j), n + 1) = (zkF (kN' k n (ci, N)), (fun (a j : Nat) => iI (hN' h n 0 a (j : Int))), zrF (hN' r n none), hN' l n 0, n + 1)
    have e1 : (fun a => if a = n then (ci, N) else zkF k a) = zkF (kN' k n (ci, N)) := funext fun a => (zkF_N hn a).symm
    have e2 : (fun (a : Nat) (j : Nat) => if a = n then (0 : Int32) else iI (h a (j : Int))) = fun (a j : Nat) => iI (hN' h n 0 a (j : Int)) := by
      funext a j
      unfold hN'
      by_cases e : a = n
      · rw [if_pos e, if_pos e]; exact iI_0
      · rw [if_neg e, if_neg e]
    have e3 : (fun (a : Nat) (j : Nat) => if a = n then none else zrF r a j) = zrF (hN' r n none) := by
      funext a j
      exact (zrF_N hn a j).symm
    rw [e1, e2, e3]
    rfl
  show zGo E d M mc ms Q nx (ls, .ref n :: st, zNew (zJ (k, h, r, l, n)) (ci, N), bc - 1, bs - N)
  rw [e]
  exact hk
theorem s_newAJ (ok : zOK M P) {t : Nat} {N : Int} (hn : 87 ≤ n) (hP : P pc = oNewA t nx) (n0 : 0 ≤ N) (n1 : N ≤ 100000) (h1 : 1 ≤ bc) (h2 : N.toNat ≤ bs) (hk : zGo E d M mc ms Q nx (ls, .ref n :: st, zJ (kN' k n (t, N.toNat), hN' h n 0, hN' r n none, hN' l n 0, n + 1), bc - 1, bs - N.toNat)) : zGo E d M mc ms Q pc (ls, .int (iI N) :: st, zJ (k, h, r, l, n), bc, bs) := by
  refine zstep ok hP ⟨N.toNat, by rw [iI_nat]; congr 1; omega, by omega, h1, h2, ?_⟩
  have e : zNew (zJ (k, h, r, l, n)) (t, N.toNat) = zJ (kN' k n (t, N.toNat), hN' h n 0, hN' r n none, hN' l n 0, n + 1) := by
    show ((fun a => if a = n then (t, N.toNat) else zkF k a), (fun (a j : Nat) => if a = n then (0 : Int32) else iI (h a (j : Int))), (fun (a j : Nat) => if a = n then none else zrF r a j), (fun (a j : Nat) => if a = n then (0 : Int64) else l a j), n + 1) = (zkF (kN' k n (t, N.toNat)), (fun (a j : Nat) => iI (hN' h n 0 a (j : Int))), zrF (hN' r n none), hN' l n 0, n + 1)
    have e1 : (fun a => if a = n then (t, N.toNat) else zkF k a) = zkF (kN' k n (t, N.toNat)) := funext fun a => (zkF_N hn a).symm
    have e2 : (fun (a : Nat) (j : Nat) => if a = n then (0 : Int32) else iI (h a (j : Int))) = fun (a j : Nat) => iI (hN' h n 0 a (j : Int)) := by
      funext a j
      unfold hN'
      by_cases e : a = n
      · rw [if_pos e, if_pos e]; exact iI_0
      · rw [if_neg e, if_neg e]
    have e3 : (fun (a : Nat) (j : Nat) => if a = n then none else zrF r a j) = zrF (hN' r n none) := by
      funext a j
      exact (zrF_N hn a j).symm
    rw [e1, e2, e3]
    rfl
  show zGo E d M mc ms Q nx (ls, .ref n :: st, zNew (zJ (k, h, r, l, n)) (t, N.toNat), bc - 1, bs - N.toNat)
  rw [e]
  exact hk
theorem s_obj (ok : zOK M P) {e9 x : Nat} (hd : d = e9 + 1) (hP : P pc = oObj nx) (hc : Nat.ble (zcat st) 8 = true) (hk : zGo E d M mc ms Q nx (ls, st, σ, bc, bs)) : zGo E d M mc ms Q pc (ls, .ref x :: st, σ, bc, bs) := by
  subst hd
  refine zstep ok hP ?_
  show (match Nat.ble (zcat st) 8 with | true => _ | false => _)
  rw [hc]
  exact hk
theorem s_callO (ok : zOK M P) {e9 na x mc' ms' : Nat} {M' : zM} {F : zS → Prop} {as rest : List Value} (hd : d = e9 + 1) (hP : P pc = oCallO na M' nx) (hp : zpop na [] st = some (as, .ref x :: rest)) (hc : Nat.ble (zcat rest) 8 = true) (hM : zCT E e9 M' (.ref x :: as) σ mc' ms' (zUx F)) (h1 : mc' ≤ bc) (h2 : ms' ≤ bs) (hk : ∀ σ', F σ' → zGo E d M mc ms Q nx (ls, rest, σ', bc - mc', bs - ms')) : zGo E d M mc ms Q pc (ls, st, σ, bc, bs) := by
  subst hd
  refine zstep ok hP ?_
  dsimp only [oCallO]
  rw [hp]
  dsimp only
  rw [hc]
  exact ⟨mc', ms', _, h1, h2, hM, fun q s ⟨e1, e2⟩ => by subst e1; exact hk s e2⟩
theorem s_callSg (ok : zOK M P) {e9 na mc' ms' : Nat} {M' : zM} {v : Value} {F : zS → Prop} {as rest : List Value} (hd : d = e9 + 1) (hP : P pc = oCallS na M' nx) (hp : zpop na [] st = some (as, rest)) (hc : Nat.ble (zcat rest) 8 = true) (hM : zCT E e9 M' as σ mc' ms' (zVx v F)) (h1 : mc' ≤ bc) (h2 : ms' ≤ bs) (hk : ∀ σ', F σ' → zGo E d M mc ms Q nx (ls, v :: rest, σ', bc - mc', bs - ms')) : zGo E d M mc ms Q pc (ls, st, σ, bc, bs) := by
  subst hd
  refine zstep ok hP ?_
  dsimp only [oCallS]
  rw [hp]
  dsimp only
  rw [hc]
  exact ⟨mc', ms', _, h1, h2, hM, fun q s ⟨e1, e2⟩ => by subst e1; exact hk s e2⟩
theorem s_callVg (ok : zOK M P) {e9 na x c L mc' ms' : Nat} {tgs : List (Nat × zM)} {M' : zM} {v : Value} {F : zS → Prop} {as rest : List Value} (hd : d = e9 + 1) (hP : P pc = oCallV na tgs nx) (hp : zpop na [] st = some (as, .ref x :: rest)) (hc : Nat.ble (zcat rest) 8 = true) (hq : zk σ x = (c, L)) (hf : zfind tgs c = some M') (hM : zCT E e9 M' (.ref x :: as) σ mc' ms' (zVx v F)) (h1 : mc' ≤ bc) (h2 : ms' ≤ bs) (hk : ∀ σ', F σ' → zGo E d M mc ms Q nx (ls, v :: rest, σ', bc - mc', bs - ms')) : zGo E d M mc ms Q pc (ls, st, σ, bc, bs) := by
  subst hd
  refine zstep ok hP ?_
  dsimp only [oCallV]
  rw [hp]
  dsimp only
  rw [hc]
  exact ⟨_, _, hq, hf, mc', ms', _, h1, h2, hM, fun q s ⟨e1, e2⟩ => by subst e1; exact hk s e2⟩
theorem s_putF {x i c L v : Nat} {cis : List Nat} (ok : zOK M P) (hP : P pc = oPutR i cis nx) (hq : zkF k x = (c, L)) (hm : zmem c cis = true) (hx : zfin x = false) (hk : zGo E d M mc ms Q nx (ls, st, zJ (k, h, zv r x i (some v), l, n), bc, bs)) : zGo E d M mc ms Q pc (ls, .ref v :: .ref x :: st, zJ (k, h, r, l, n), bc, bs) := by
  refine zstep ok hP ⟨_, hq, hm, ?_⟩
  dsimp only
  rw [zJ_R hx]
  exact hk
end ZM
theorem zct_ux {E : zE} {d : Nat} {M : zM} {vs : List Value} {σ τ : zS} (h : zCT E d M vs σ 0 0 (zU τ)) : zCT E d M vs σ 0 0 (zUx (fun s => s = τ)) := h
theorem ct_X10_init {E : zE} {d : Nat} {k : Nat → Nat × Nat} {h : Nat → Int → Int} {r : Nat → Int → Option Nat} {l : Nat → Nat → Int64} {n : Nat} {v c : Nat} (hq : zkF k v = (c, 2)) (hm : zmem c [0, 1, 2, 5, 6, 7, 8, 10] = true) {K F : Int} : zCT E (d + 1) M_X10_init [.ref v, .int (iI (K)), .int (iI (F))] (zJ (k, h, r, l, n)) 0 0 (zU (zJ (k, zv (zv h v 0 K) v 1 F, r, l, n))) := by
  have ok := ok_X10_init
  refine zCT_of pn_X10_init (Nat.le_of_ble_eq_true rfl) ?_
  show zGo _ _ _ _ _ _ 0 ([some (.ref v), some (.int (iI (K))), some (.int (iI (F)))], [], _, _, _)
  refine s_ldA0 ok rfl ?_
  refine s_obj ok rfl rfl rfl ?_
  refine s_ldA0 ok rfl ?_
  refine s_ldI1 ok rfl ?_
  refine s_putJ 0 ok rfl hq hm rfl (fun q => by cases q) ?_
  refine s_ldA0 ok rfl ?_
  refine s_ldI2 ok rfl ?_
  refine s_putJ 1 ok rfl hq hm rfl (fun q => by cases q) ?_
  refine s_retV ok rfl ⟨rfl, rfl⟩
theorem ct_X5_init {E : zE} {d : Nat} {k : Nat → Nat × Nat} {h : Nat → Int → Int} {r : Nat → Int → Option Nat} {l : Nat → Nat → Int64} {n : Nat} {v c : Nat} (hq : zkF k v = (c, 2)) (hm : zmem c [0, 1, 2, 5, 6, 7, 8, 10] = true) {K F : Int} : zCT E (d + 2) M_X5_init [.ref v, .int (iI (K)), .int (iI (F))] (zJ (k, h, r, l, n)) 0 0 (zU (zJ (k, zv (zv h v 0 K) v 1 F, r, l, n))) := by
  have ok := ok_X5_init
  refine zCT_of pn_X5_init (Nat.le_of_ble_eq_true rfl) ?_
  show zGo _ _ _ _ _ _ 0 ([some (.ref v), some (.int (iI (K))), some (.int (iI (F)))], [], _, _, _)
  refine s_ldA0 ok rfl ?_
  refine s_ldI1 ok rfl ?_
  refine s_ldI2 ok rfl ?_
  refine s_callO ok rfl rfl rfl rfl (zct_ux (ct_X10_init hq hm)) (Nat.zero_le _) (Nat.zero_le _) (fun σ9 e9 => ?_)
  subst e9
  refine s_retV ok rfl ⟨rfl, rfl⟩
theorem ct_X8_init {E : zE} {d : Nat} {k : Nat → Nat × Nat} {h : Nat → Int → Int} {r : Nat → Int → Option Nat} {l : Nat → Nat → Int64} {n : Nat} {v c : Nat} (hq : zkF k v = (c, 2)) (hm : zmem c [0, 1, 2, 5, 6, 7, 8, 10] = true) {K F : Int} : zCT E (d + 2) M_X8_init [.ref v, .int (iI (K)), .int (iI (F))] (zJ (k, h, r, l, n)) 0 0 (zU (zJ (k, zv (zv h v 0 K) v 1 F, r, l, n))) := by
  have ok := ok_X8_init
  refine zCT_of pn_X8_init (Nat.le_of_ble_eq_true rfl) ?_
  show zGo _ _ _ _ _ _ 0 ([some (.ref v), some (.int (iI (K))), some (.int (iI (F)))], [], _, _, _)
  refine s_ldA0 ok rfl ?_
  refine s_ldI1 ok rfl ?_
  refine s_ldI2 ok rfl ?_
  refine s_callO ok rfl rfl rfl rfl (zct_ux (ct_X10_init hq hm)) (Nat.zero_le _) (Nat.zero_le _) (fun σ9 e9 => ?_)
  subst e9
  refine s_retV ok rfl ⟨rfl, rfl⟩
theorem ct_X6_init {E : zE} {d : Nat} {k : Nat → Nat × Nat} {h : Nat → Int → Int} {r : Nat → Int → Option Nat} {l : Nat → Nat → Int64} {n : Nat} {v c : Nat} (hq : zkF k v = (c, 2)) (hm : zmem c [0, 1, 2, 5, 6, 7, 8, 10] = true) {K F : Int} : zCT E (d + 2) M_X6_init [.ref v, .int (iI (K)), .int (iI (F))] (zJ (k, h, r, l, n)) 0 0 (zU (zJ (k, zv (zv h v 0 K) v 1 F, r, l, n))) := by
  have ok := ok_X6_init
  refine zCT_of pn_X6_init (Nat.le_of_ble_eq_true rfl) ?_
  show zGo _ _ _ _ _ _ 0 ([some (.ref v), some (.int (iI (K))), some (.int (iI (F)))], [], _, _, _)
  refine s_ldA0 ok rfl ?_
  refine s_ldI1 ok rfl ?_
  refine s_ldI2 ok rfl ?_
  refine s_callO ok rfl rfl rfl rfl (zct_ux (ct_X10_init hq hm)) (Nat.zero_le _) (Nat.zero_le _) (fun σ9 e9 => ?_)
  subst e9
  refine s_retV ok rfl ⟨rfl, rfl⟩
theorem ct_X2_init {E : zE} {d : Nat} {k : Nat → Nat × Nat} {h : Nat → Int → Int} {r : Nat → Int → Option Nat} {l : Nat → Nat → Int64} {n : Nat} {v c : Nat} (hq : zkF k v = (c, 2)) (hm : zmem c [0, 1, 2, 5, 6, 7, 8, 10] = true) {K F : Int} : zCT E (d + 2) M_X2_init [.ref v, .int (iI (K)), .int (iI (F))] (zJ (k, h, r, l, n)) 0 0 (zU (zJ (k, zv (zv h v 0 K) v 1 F, r, l, n))) := by
  have ok := ok_X2_init
  refine zCT_of pn_X2_init (Nat.le_of_ble_eq_true rfl) ?_
  show zGo _ _ _ _ _ _ 0 ([some (.ref v), some (.int (iI (K))), some (.int (iI (F)))], [], _, _, _)
  refine s_ldA0 ok rfl ?_
  refine s_ldI1 ok rfl ?_
  refine s_ldI2 ok rfl ?_
  refine s_callO ok rfl rfl rfl rfl (zct_ux (ct_X10_init hq hm)) (Nat.zero_le _) (Nat.zero_le _) (fun σ9 e9 => ?_)
  subst e9
  refine s_retV ok rfl ⟨rfl, rfl⟩
theorem ct_X7_init {E : zE} {d : Nat} {k : Nat → Nat × Nat} {h : Nat → Int → Int} {r : Nat → Int → Option Nat} {l : Nat → Nat → Int64} {n : Nat} {v c : Nat} (hq : zkF k v = (c, 2)) (hm : zmem c [0, 1, 2, 5, 6, 7, 8, 10] = true) {K F : Int} : zCT E (d + 3) M_X7_init [.ref v, .int (iI (K)), .int (iI (F))] (zJ (k, h, r, l, n)) 0 0 (zU (zJ (k, zv (zv h v 0 K) v 1 F, r, l, n))) := by
  have ok := ok_X7_init
  refine zCT_of pn_X7_init (Nat.le_of_ble_eq_true rfl) ?_
  show zGo _ _ _ _ _ _ 0 ([some (.ref v), some (.int (iI (K))), some (.int (iI (F)))], [], _, _, _)
  refine s_ldA0 ok rfl ?_
  refine s_ldI1 ok rfl ?_
  refine s_ldI2 ok rfl ?_
  refine s_callO ok rfl rfl rfl rfl (zct_ux (ct_X5_init hq hm)) (Nat.zero_le _) (Nat.zero_le _) (fun σ9 e9 => ?_)
  subst e9
  refine s_retV ok rfl ⟨rfl, rfl⟩
theorem ct_X1_init {E : zE} {d : Nat} {k : Nat → Nat × Nat} {h : Nat → Int → Int} {r : Nat → Int → Option Nat} {l : Nat → Nat → Int64} {n : Nat} {v c : Nat} (hq : zkF k v = (c, 2)) (hm : zmem c [0, 1, 2, 5, 6, 7, 8, 10] = true) {K F : Int} : zCT E (d + 3) M_X1_init [.ref v, .int (iI (K)), .int (iI (F))] (zJ (k, h, r, l, n)) 0 0 (zU (zJ (k, zv (zv h v 0 K) v 1 F, r, l, n))) := by
  have ok := ok_X1_init
  refine zCT_of pn_X1_init (Nat.le_of_ble_eq_true rfl) ?_
  show zGo _ _ _ _ _ _ 0 ([some (.ref v), some (.int (iI (K))), some (.int (iI (F)))], [], _, _, _)
  refine s_ldA0 ok rfl ?_
  refine s_ldI1 ok rfl ?_
  refine s_ldI2 ok rfl ?_
  refine s_callO ok rfl rfl rfl rfl (zct_ux (ct_X8_init hq hm)) (Nat.zero_le _) (Nat.zero_le _) (fun σ9 e9 => ?_)
  subst e9
  refine s_retV ok rfl ⟨rfl, rfl⟩
theorem ct_X0_init {E : zE} {d : Nat} {k : Nat → Nat × Nat} {h : Nat → Int → Int} {r : Nat → Int → Option Nat} {l : Nat → Nat → Int64} {n : Nat} {v c : Nat} (hq : zkF k v = (c, 2)) (hm : zmem c [0, 1, 2, 5, 6, 7, 8, 10] = true) {K F : Int} : zCT E (d + 3) M_X0_init [.ref v, .int (iI (K)), .int (iI (F))] (zJ (k, h, r, l, n)) 0 0 (zU (zJ (k, zv (zv h v 0 K) v 1 F, r, l, n))) := by
  have ok := ok_X0_init
  refine zCT_of pn_X0_init (Nat.le_of_ble_eq_true rfl) ?_
  show zGo _ _ _ _ _ _ 0 ([some (.ref v), some (.int (iI (K))), some (.int (iI (F)))], [], _, _, _)
  refine s_ldA0 ok rfl ?_
  refine s_ldI1 ok rfl ?_
  refine s_ldI2 ok rfl ?_
  refine s_callO ok rfl rfl rfl rfl (zct_ux (ct_X8_init hq hm)) (Nat.zero_le _) (Nat.zero_le _) (fun σ9 e9 => ?_)
  subst e9
  refine s_retV ok rfl ⟨rfl, rfl⟩
theorem ct_ofKind {E : zE} {d : Nat} {k : Nat → Nat × Nat} {h : Nat → Int → Int} {r : Nat → Int → Option Nat} {l : Nat → Nat → Int64} {n : Nat} {K F : Int} (hn : 87 ≤ n) (k0 : 0 ≤ K) (k1 : K ≤ 7) (f0 : 0 ≤ F) (f1 : F ≤ 9) : zCT E (d + 4) M_X10_ofKind [.int (iI (K)), .int (iI (F))] (zJ (k, h, r, l, n)) 1 2 (zVx (.ref n) (fun s => ∃ k2 h2 r2 l2, s = zJ (k2, h2, r2, l2, n + 1) ∧ gN n k h r l k2 h2 r2 l2 ∧ wk k2 h2 n K F)) := by
  have ok := ok_X10_ofKind
  refine zCT_of pn_X10_ofKind (Nat.le_of_ble_eq_true rfl) ?_
  show zGo _ _ _ _ _ _ 0 ([some (.int (iI (K))), some (.int (iI (F)))], [], _, _, _)
  refine s_ldI0 ok rfl ?_
  refine s_sw ok rfl ?_
  refine zsw_c (by first | exact hb _ _ | exact ⟨by omega, by omega⟩) (by first | exact hb _ _ | exact ⟨by omega, by omega⟩) (fun c1 => ?_) (fun c1_1 => ?_)
  · refine s_newJ ok hn rfl (by omega) (by omega) ?_
    refine s_dupA ok rfl ?_
    refine s_ldI0 ok rfl ?_
    refine s_ldI1 ok rfl ?_
    refine s_callO ok rfl rfl rfl rfl (zct_ux (ct_X5_init (c := 5) (by rw [zkF_N hn, if_pos rfl]) rfl)) (Nat.zero_le _) (Nat.zero_le _) (fun σ9 e9 => ?_)
    subst e9
    refine s_retA ok rfl ⟨rfl, _, _, _, _, rfl, fun a ha => ⟨if_neg ha, (by rw [zv_other ha, zv_other ha]; exact funext fun j => if_neg ha), funext fun j => if_neg ha, funext fun j => if_neg ha⟩, (by rw [zkF_N hn, if_pos rfl, show kC K = 5 from (by unfold kC; (repeat (first | rw [if_pos (by omega)] | rw [if_neg (by omega)])))]), ⟨(by rw [zv_at (by omega), zv_is]), zv_is⟩, ⟨k0, k1⟩, f0, f1⟩
  refine zsw_c (by first | exact hb _ _ | exact ⟨by omega, by omega⟩) (by first | exact hb _ _ | exact ⟨by omega, by omega⟩) (fun c1 => ?_) (fun c1_2 => ?_)
  · refine s_newJ ok hn rfl (by omega) (by omega) ?_
    refine s_dupA ok rfl ?_
    refine s_ldI0 ok rfl ?_
    refine s_ldI1 ok rfl ?_
    refine s_callO ok rfl rfl rfl rfl (zct_ux (ct_X8_init (c := 8) (by rw [zkF_N hn, if_pos rfl]) rfl)) (Nat.zero_le _) (Nat.zero_le _) (fun σ9 e9 => ?_)
    subst e9
    refine s_retA ok rfl ⟨rfl, _, _, _, _, rfl, fun a ha => ⟨if_neg ha, (by rw [zv_other ha, zv_other ha]; exact funext fun j => if_neg ha), funext fun j => if_neg ha, funext fun j => if_neg ha⟩, (by rw [zkF_N hn, if_pos rfl, show kC K = 8 from (by unfold kC; (repeat (first | rw [if_pos (by omega)] | rw [if_neg (by omega)])))]), ⟨(by rw [zv_at (by omega), zv_is]), zv_is⟩, ⟨k0, k1⟩, f0, f1⟩
  refine zsw_c (by first | exact hb _ _ | exact ⟨by omega, by omega⟩) (by first | exact hb _ _ | exact ⟨by omega, by omega⟩) (fun c1 => ?_) (fun c1_3 => ?_)
  · refine s_newJ ok hn rfl (by omega) (by omega) ?_
    refine s_dupA ok rfl ?_
    refine s_ldI0 ok rfl ?_
    refine s_ldI1 ok rfl ?_
    refine s_callO ok rfl rfl rfl rfl (zct_ux (ct_X1_init (c := 1) (by rw [zkF_N hn, if_pos rfl]) rfl)) (Nat.zero_le _) (Nat.zero_le _) (fun σ9 e9 => ?_)
    subst e9
    refine s_retA ok rfl ⟨rfl, _, _, _, _, rfl, fun a ha => ⟨if_neg ha, (by rw [zv_other ha, zv_other ha]; exact funext fun j => if_neg ha), funext fun j => if_neg ha, funext fun j => if_neg ha⟩, (by rw [zkF_N hn, if_pos rfl, show kC K = 1 from (by unfold kC; (repeat (first | rw [if_pos (by omega)] | rw [if_neg (by omega)])))]), ⟨(by rw [zv_at (by omega), zv_is]), zv_is⟩, ⟨k0, k1⟩, f0, f1⟩
  refine zsw_c (by first | exact hb _ _ | exact ⟨by omega, by omega⟩) (by first | exact hb _ _ | exact ⟨by omega, by omega⟩) (fun c1 => ?_) (fun c1_4 => ?_)
  · refine s_newJ ok hn rfl (by omega) (by omega) ?_
    refine s_dupA ok rfl ?_
    refine s_ldI0 ok rfl ?_
    refine s_ldI1 ok rfl ?_
    refine s_callO ok rfl rfl rfl rfl (zct_ux (ct_X7_init (c := 7) (by rw [zkF_N hn, if_pos rfl]) rfl)) (Nat.zero_le _) (Nat.zero_le _) (fun σ9 e9 => ?_)
    subst e9
    refine s_retA ok rfl ⟨rfl, _, _, _, _, rfl, fun a ha => ⟨if_neg ha, (by rw [zv_other ha, zv_other ha]; exact funext fun j => if_neg ha), funext fun j => if_neg ha, funext fun j => if_neg ha⟩, (by rw [zkF_N hn, if_pos rfl, show kC K = 7 from (by unfold kC; (repeat (first | rw [if_pos (by omega)] | rw [if_neg (by omega)])))]), ⟨(by rw [zv_at (by omega), zv_is]), zv_is⟩, ⟨k0, k1⟩, f0, f1⟩
  refine zsw_c (by first | exact hb _ _ | exact ⟨by omega, by omega⟩) (by first | exact hb _ _ | exact ⟨by omega, by omega⟩) (fun c1 => ?_) (fun c1_5 => ?_)
  · refine s_newJ ok hn rfl (by omega) (by omega) ?_
    refine s_dupA ok rfl ?_
    refine s_ldI0 ok rfl ?_
    refine s_ldI1 ok rfl ?_
    refine s_callO ok rfl rfl rfl rfl (zct_ux (ct_X6_init (c := 6) (by rw [zkF_N hn, if_pos rfl]) rfl)) (Nat.zero_le _) (Nat.zero_le _) (fun σ9 e9 => ?_)
    subst e9
    refine s_retA ok rfl ⟨rfl, _, _, _, _, rfl, fun a ha => ⟨if_neg ha, (by rw [zv_other ha, zv_other ha]; exact funext fun j => if_neg ha), funext fun j => if_neg ha, funext fun j => if_neg ha⟩, (by rw [zkF_N hn, if_pos rfl, show kC K = 6 from (by unfold kC; (repeat (first | rw [if_pos (by omega)] | rw [if_neg (by omega)])))]), ⟨(by rw [zv_at (by omega), zv_is]), zv_is⟩, ⟨k0, k1⟩, f0, f1⟩
  refine zsw_c (by first | exact hb _ _ | exact ⟨by omega, by omega⟩) (by first | exact hb _ _ | exact ⟨by omega, by omega⟩) (fun c1 => ?_) (fun c1_6 => ?_)
  · refine s_newJ ok hn rfl (by omega) (by omega) ?_
    refine s_dupA ok rfl ?_
    refine s_ldI0 ok rfl ?_
    refine s_ldI1 ok rfl ?_
    refine s_callO ok rfl rfl rfl rfl (zct_ux (ct_X0_init (c := 0) (by rw [zkF_N hn, if_pos rfl]) rfl)) (Nat.zero_le _) (Nat.zero_le _) (fun σ9 e9 => ?_)
    subst e9
    refine s_retA ok rfl ⟨rfl, _, _, _, _, rfl, fun a ha => ⟨if_neg ha, (by rw [zv_other ha, zv_other ha]; exact funext fun j => if_neg ha), funext fun j => if_neg ha, funext fun j => if_neg ha⟩, (by rw [zkF_N hn, if_pos rfl, show kC K = 0 from (by unfold kC; (repeat (first | rw [if_pos (by omega)] | rw [if_neg (by omega)])))]), ⟨(by rw [zv_at (by omega), zv_is]), zv_is⟩, ⟨k0, k1⟩, f0, f1⟩
  refine zsw_c (by first | exact hb _ _ | exact ⟨by omega, by omega⟩) (by first | exact hb _ _ | exact ⟨by omega, by omega⟩) (fun c1 => ?_) (fun c1_7 => ?_)
  · refine s_newJ ok hn rfl (by omega) (by omega) ?_
    refine s_dupA ok rfl ?_
    refine s_ldI0 ok rfl ?_
    refine s_ldI1 ok rfl ?_
    refine s_callO ok rfl rfl rfl rfl (zct_ux (ct_X2_init (c := 2) (by rw [zkF_N hn, if_pos rfl]) rfl)) (Nat.zero_le _) (Nat.zero_le _) (fun σ9 e9 => ?_)
    subst e9
    refine s_retA ok rfl ⟨rfl, _, _, _, _, rfl, fun a ha => ⟨if_neg ha, (by rw [zv_other ha, zv_other ha]; exact funext fun j => if_neg ha), funext fun j => if_neg ha, funext fun j => if_neg ha⟩, (by rw [zkF_N hn, if_pos rfl, show kC K = 2 from (by unfold kC; (repeat (first | rw [if_pos (by omega)] | rw [if_neg (by omega)])))]), ⟨(by rw [zv_at (by omega), zv_is]), zv_is⟩, ⟨k0, k1⟩, f0, f1⟩
  show zGo _ _ _ _ _ _ 114 _
  refine s_newJ ok hn rfl (by omega) (by omega) ?_
  refine s_dupA ok rfl ?_
  refine s_ldI0 ok rfl ?_
  refine s_ldI1 ok rfl ?_
  refine s_callO ok rfl rfl rfl rfl (zct_ux (ct_X10_init (c := 10) (by rw [zkF_N hn, if_pos rfl]) rfl)) (Nat.zero_le _) (Nat.zero_le _) (fun σ9 e9 => ?_)
  subst e9
  refine s_retA ok rfl ⟨rfl, _, _, _, _, rfl, fun a ha => ⟨if_neg ha, (by rw [zv_other ha, zv_other ha]; exact funext fun j => if_neg ha), funext fun j => if_neg ha, funext fun j => if_neg ha⟩, (by rw [zkF_N hn, if_pos rfl, show kC K = 10 from (by unfold kC; (repeat (first | rw [if_pos (by omega)] | rw [if_neg (by omega)])))]), ⟨(by rw [zv_at (by omega), zv_is]), zv_is⟩, ⟨k0, k1⟩, f0, f1⟩
