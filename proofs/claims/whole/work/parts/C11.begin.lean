/-! the law: its beginning -/
theorem zGy_rel {E : zE} {M : zM} {tb : List ExceptionTableEntry} {R : Room} {Z : zEd} {pc bc bs : Nat} {ls : List (Option Value)} {st : List Value} {σ σ' : zS} (h : ∀ H, zRel E σ H → zRel E σ' H) (hk : zGy E M tb R Z pc (ls, st, σ', bc, bs)) : zGy E M tb R Z pc (ls, st, σ, bc, bs) :=
  fun p e s m args below meth cd X H locs A hR hL hF h1 h2 => hk p e s m args below meth cd X H locs A (h H hR) hL hF h1 h2
theorem zent_cg {E : zE} {σ τ : zS} {n : Nat} (hk : zk σ n = zk τ n) (hi : ∀ j, zi σ n j = zi τ n j) (hl : ∀ j, zl σ n j = zl τ n j) (hr : ∀ j, ((zk τ n).1 < 16 → (zFs (zk τ n).1)[j]? = some true) → zr σ n j = zr τ n j) : zent E σ n = zent E τ n := by
  unfold zent
  rw [hk]
  have f : (zk τ n).1 < 16 → zFld E σ n (zk τ n).1 = zFld E τ n (zk τ n).1 := fun c => by
    unfold zFld
    refine List.map_congr_left fun q hq => ?_
    have hq2 : (zFs (zk τ n).1)[q.2]? = some q.1 := List.mem_zipIdx_iff_getElem?.mp hq
    obtain ⟨b, j⟩ := q
    cases b
    · exact congrArg Value.int (hi j)
    · exact congrArg (zrf E) (hr j (fun _ => hq2))
  by_cases c : (zk τ n).1 < 16
  · rw [if_pos c, if_pos c, f c]
  · rw [if_neg c, if_neg c]
    have e1 : (fun j => (zr σ n j).map (zad E)) = fun j => (zr τ n j).map (zad E) := funext fun j => by rw [hr j (fun z => absurd z c)]
    have e2 : zl σ n = zl τ n := funext hl
    have e3 : zi σ n = zi τ n := funext hi
    rw [e1, e2, e3]
/-- numbers out of a state -/
def zTo (σ : zS) : zT := (zk σ, fun a j => (zi σ a j.toNat).toInt, fun a j => zr σ a j.toNat, zl σ, zn σ)
set_option maxRecDepth 100000 in
theorem t0_kind : ∀ n, n < 87 → 3 ≤ n → zKt n = zk tL2 n := by decide +kernel
set_option maxRecDepth 100000 in
theorem t0_refs : ∀ n, n < 87 → zfin n = true → ∀ j, j < 37 → (zFs (zk tL2 n).1)[j]? = some true → zRt n j = zr tL2 n j := by decide +kernel
set_option maxRecDepth 100000 in
theorem t0_len : ∀ n, n < 87 → zfin n = true → (zFs (zk tL2 n).1).length ≤ 37 := by decide +kernel
set_option maxRecDepth 100000 in
theorem t0_fin : ∀ n, n < 87 → zfin n = true → (zk tL2 n).1 < 16 ∧ 3 ≤ n := by decide +kernel
theorem zfin_lt {n : Nat} (h : 87 ≤ n) : zfin n = false := by
  cases e : zfin n
  · rfl
  · exfalso
    unfold zfin at e
    simp only [Bool.or_eq_true] at e
    rcases e with ((((e | e) | e) | e) | e) | e <;> (have := Nat.eq_of_beq_eq_true e; omega)
theorem zov_hi {b τ : zS} {n : Nat} (h : 3 ≤ n) : zk (zOv b τ) n = zk τ n ∧ (∀ j, zi (zOv b τ) n j = zi τ n j) ∧ ∀ j, zr (zOv b τ) n j = zr τ n j := by
  have e : Nat.ble 3 n = true := Nat.ble_eq_true_of_le h
  refine ⟨?_, fun j => ?_, fun j => ?_⟩
  · show cond (Nat.ble 3 n) _ _ = _
    rw [e]; rfl
  · show cond (Nat.ble 3 n) _ _ = _
    rw [e]; rfl
  · show cond (Nat.ble 3 n) _ _ = _
    rw [e]; rfl
set_option maxRecDepth 100000 in
theorem t0_n : zn tL2 = 87 := rfl
theorem t0_rel {E : zE} {b : zS} {H : Heap} (h : zRel E (zOv b tL2) H) : zRel E (zJ (zTo (zOv b tL2))) H := by
  have ek : zk (zJ (zTo (zOv b tL2))) = zk (zOv b tL2) := funext fun n => by
    show cond (Nat.ble n 86 && Nat.ble 3 n) (zKt n) (zk (zOv b tL2) n) = _
    by_cases c : 3 ≤ n ∧ n ≤ 86
    · rw [Nat.ble_eq_true_of_le c.1, Nat.ble_eq_true_of_le c.2, (zov_hi c.1).1]
      exact t0_kind n (by omega) c.1
    · have : (Nat.ble n 86 && Nat.ble 3 n) = false := by
        cases e : (Nat.ble n 86 && Nat.ble 3 n)
        · rfl
        · rw [Bool.and_eq_true] at e
          exact absurd ⟨Nat.le_of_ble_eq_true e.2, Nat.le_of_ble_eq_true e.1⟩ c
      rw [this]; rfl
  have ei : ∀ n j, zi (zJ (zTo (zOv b tL2))) n j = zi (zOv b tL2) n j := fun n j => by
    show iI (zi (zOv b tL2) n ((j : Int).toNat)).toInt = _
    rw [iI_of, Int.toNat_natCast]
  obtain ⟨h1, h2, h3, h4, h5, h6⟩ := h
  refine ⟨h1, h2, fun n n0 n1 => ?_, h4, fun n n0 => ?_, fun n n0 => ?_⟩
  · have e : zent E (zJ (zTo (zOv b tL2))) n = zent E (zOv b tL2) n := by
      refine zent_cg (congrFun ek n) (ei n) (fun _ => rfl) (fun j hj => ?_)
      have n9 : n < 87 := n1
      show cond (zfin n) (zRt n j) (zr (zOv b tL2) n ((j : Int).toNat)) = _
      rw [Int.toNat_natCast]
      cases e : zfin n
      · rfl
      · obtain ⟨f1, f2⟩ := t0_fin n n9 e
        rw [(zov_hi f2).1] at hj
        rw [(zov_hi f2).2.2 j]
        have h9 := hj f1
        obtain ⟨l1, -⟩ := List.getElem?_eq_some_iff.mp h9
        exact t0_refs n n9 e j (by have := t0_len n n9 e; omega) h9
    rw [e, ek]
    exact h3 n n0 n1
  · rw [ek]
    exact ⟨(h5 n n0).1, fun j hj => (ei n j).trans ((h5 n n0).2 j hj)⟩
  · rw [ek]
    exact h6 n n0
set_option maxRecDepth 100000 in
theorem t0_p : ∀ j, j < 59 → (zi tL2 60 j).toInt = if j = 2 then 10 else if j = 3 then 8 else if j = 4 then 5 else if j = 5 then 2 else if 7 ≤ j ∧ j < 11 then 10 else 0 := by decide +kernel
set_option maxRecDepth 100000 in
theorem t0_w : ∀ j, j < 8 → zr tL2 5 j = some 14 := by decide +kernel
set_option maxRecDepth 100000 in
theorem t0_r : ∀ j, j < 4 → (zi tL2 12 j).toInt = 10 ∧ (zi tL2 11 j).toInt = 0 := by decide +kernel
set_option maxRecDepth 100000 in
theorem t0_u : ∀ j, j < 4 → (zi tL2 13 j).toInt = (zi tL2 60 (2 + j)).toInt := by decide +kernel
set_option maxRecDepth 100000 in
theorem t0_4 : (zi tL2 4 0).toInt = 0 ∧ (zi tL2 4 5).toInt = 0 ∧ (zi tL2 3 3).toInt = 0 ∧ (zi tL2 59 3).toInt = 0 ∧ (zi tL2 59 17).toInt = -4 ∧ (zi tL2 59 18).toInt = 3 := by decide +kernel
set_option maxRecDepth 100000 in
theorem t0_80 : (∀ j, zi tL2 80 j = 0) ∧ (∀ j, zi tL2 84 j = 0) ∧ (∀ j, zi tL2 72 j = 0) ∧ (∀ j, zr tL2 55 j = none) ∧ ∀ j, zr tL2 56 j = none := ⟨fun _ => rfl, fun _ => rfl, fun _ => rfl, fun _ => rfl, fun _ => rfl⟩
theorem i320 : (0 : Int32).toInt = 0 := by decide
set_option maxRecDepth 100000 in
theorem LI_0 {b : zS} {L : Nat} (k0 : zk b 0 = (21, L)) (k1 : zk b 1 = (21, 4)) (k2 : zk b 2 = (21, 4)) (x1 : (zi b 1 0).toInt = 0 ∧ (zi b 1 1).toInt = 1 ∧ (zi b 1 2).toInt = 0 ∧ (zi b 1 3).toInt = 0) (x2 : (zi b 2 0).toInt = 30 ∧ (zi b 2 1).toInt = 30 ∧ (zi b 2 2).toInt = 9 ∧ (zi b 2 3).toInt = 9) :
    LI L (zk (zOv b tL2)) (fun a j => (zi (zOv b tL2) a j.toNat).toInt) (fun a j => zr (zOv b tL2) a j.toNat) 87 := by
  obtain ⟨q1, q2, q3, q4, q5, q6⟩ := t0_4
  obtain ⟨y1, y2, y3, y4, y5⟩ := t0_80
  have eh : ∀ (a : Nat) (j : Int), 3 ≤ a → (fun (a : Nat) (j : Int) => (zi (zOv b tL2) a j.toNat).toInt) a j = (zi tL2 a j.toNat).toInt := fun a j h => congrArg Int32.toInt ((zov_hi h).2.1 _)
  have er : ∀ (a : Nat) (j : Int), 3 ≤ a → (fun (a : Nat) (j : Int) => zr (zOv b tL2) a j.toNat) a j = zr tL2 a j.toNat := fun a j h => (zov_hi h).2.2 _
  have ek : ∀ a, 3 ≤ a → zk (zOv b tL2) a = zk tL2 a := fun a h => (zov_hi h).1
  have hz : ∀ (a : Nat) (j : Int), zb ((fun (a : Nat) (j : Int) => (zi (zOv b tL2) a j.toNat).toInt) a j) := fun a j => zb_of _
  have s1 : (fun (a : Nat) (j : Int) => (zi (zOv b tL2) a j.toNat).toInt) 1 = fun j => (zi b 1 j.toNat).toInt := rfl
  have s2 : (fun (a : Nat) (j : Int) => (zi (zOv b tL2) a j.toNat).toInt) 2 = fun j => (zi b 2 j.toNat).toInt := rfl
  generalize hh : (fun (a : Nat) (j : Int) => (zi (zOv b tL2) a j.toNat).toInt) = h at *
  generalize hr : (fun (a : Nat) (j : Int) => zr (zOv b tL2) a j.toNat) = r at *
  have p0 : ∀ j : Int, 0 ≤ j → j < 59 → h 60 j = if j = 2 then 10 else if j = 3 then 8 else if j = 4 then 5 else if j = 5 then 2 else if 7 ≤ j ∧ j < 11 then 10 else 0 := fun j j0 j1 => by
    rw [eh 60 j (by omega), t0_p j.toNat (by omega)]
    repeat' split
    all_goals omega
  have u : ∀ j : Int, 0 ≤ j → j < 59 → ¬ (2 ≤ j ∧ j < 6) → ¬ (7 ≤ j ∧ j < 11) → h 60 j = 0 := fun j j0 j1 j2 j3 => by
    rw [p0 j j0 j1]
    repeat' split
    all_goals omega
  have e0 := u 0 (by omega) (by omega) (by omega) (by omega)
  have e1 := u 1 (by omega) (by omega) (by omega) (by omega)
  have e6 := u 6 (by omega) (by omega) (by omega) (by omega)
  have v2 : h 60 2 = 10 := (p0 2 (by omega) (by omega)).trans rfl
  have v3 : h 60 3 = 8 := (p0 3 (by omega) (by omega)).trans rfl
  have v4 : h 60 4 = 5 := (p0 4 (by omega) (by omega)).trans rfl
  have v5 : h 60 5 = 2 := (p0 5 (by omega) (by omega)).trans rfl
  have v7 : ∀ j : Int, 7 ≤ j → j < 11 → h 60 j = 10 := fun j j0 j1 => by
    rw [p0 j (by omega) (by omega)]
    repeat' split
    all_goals omega
  have hS : pS (h 60) := by
    refine ⟨⟨by omega, by omega, by omega, by omega, by omega, by omega, by omega, by omega, by omega, by omega, by omega, by omega, by omega, by omega, fun j j0 j1 => ?_, fun j j0 j1 => ?_, fun s s0 s1 => ?_⟩, fun t t0 t1 => ?_, fun j j0 j1 => ?_, fun t t0 t1 => ?_, ?_⟩
    · rw [v7 j j0 j1]; omega
    · rw [u _ (by omega) (by omega) (by omega) (by omega), u _ (by omega) (by omega) (by omega) (by omega)]; omega
    · unfold pK pF pFr pTo pBa
      rw [u _ (by omega) (by omega) (by omega) (by omega), u _ (by omega) (by omega) (by omega) (by omega), u _ (by omega) (by omega) (by omega) (by omega), u _ (by omega) (by omega) (by omega) (by omega), u _ (by omega) (by omega) (by omega) (by omega)]
      omega
    · unfold pBa
      rw [u _ (by omega) (by omega) (by omega) (by omega)]; omega
    · rw [v7 j j0 j1]; omega
    · omega
    · rw [e0, e1]; decide
  refine ⟨Nat.le_refl _, ⟨k0, hz 0⟩, ⟨⟨k1, k2⟩, by rw [s1]; exact x1, by rw [s2]; exact x2⟩, ⟨fun t t0 t1 => Or.inl ⟨?_, ?_, ?_⟩, fun t v w _ _ _ _ z _ => ?_⟩, ⟨hS, ⟨?_, ?_⟩, fun t t0 t1 => ?_, fun t t0 t1 => ?_, fun x c0 c1 => ?_, fun j j0 j1 => ?_, fun j j0 j1 => ?_⟩, ⟨?_, ?_⟩, ⟨hS.1, hz 69, hz 71, fun j j0 j1 => ?_, hz 59 17⟩, ⟨hz 80, hz 83, fun j => ?_, hz 85⟩, ⟨?_, ?_⟩, fun z => ?_⟩
  · rw [eh 80 t (by omega), y1]; exact i320
  · rw [er 55 t (by omega), y4]
  · rw [er 56 t (by omega), y5]
  · rw [er 56 t (by omega), y5] at z; cases z
  · rw [eh 4 0 (by omega), cnP_4, e6]; exact q1
  · rw [eh 4 5 (by omega), e0]; exact q2
  · rw [cnP_4, e6] at t1; omega
  · refine ⟨14, 10, ?_, ?_, rfl, by omega⟩
    · rw [er 5 t (by omega)]; exact t0_w _ (by omega)
    · rfl
  · rw [e0] at c1; omega
  · rw [eh 11 j (by omega)]; exact Or.inl (t0_r j.toNat (by omega)).2
  · rw [eh 12 j (by omega), eh 13 j (by omega), (t0_r j.toNat (by omega)).1, v7 _ (by omega) (by omega), t0_u j.toNat (by omega), eh 60 (2 + j) (by omega)]
    refine ⟨rfl, ?_⟩
    congr 2
    omega
  · rw [eh 59 17 (by omega)]; exact q5
  · rw [eh 59 18 (by omega)]; exact q6
  · rw [eh 72 j (by omega), y3, i320]; omega
  · rw [eh 84 j (by omega), y2, i320]; omega
  · rw [eh 3 3 (by omega), eh 59 3 (by omega)]; exact q3.trans q4.symm
  · rw [eh 3 3 (by omega)]; exact Or.inl q3
  · rw [eh 3 3 (by omega)] at z
    exact absurd (q3.symm.trans z) (by decide)
