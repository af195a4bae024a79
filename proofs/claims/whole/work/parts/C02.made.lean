/-! constructors, on states told by what was made -/
def zq0 : zS := ((fun _ => (99, 0)), (fun _ _ => 0), (fun _ _ => none), (fun _ _ => 0), 3)
/-- names 0..2 as in b, the others as in τ -/
def zOv (b τ : zS) : zS := (fun a => cond (Nat.ble 3 a) (zk τ a) (zk b a), fun a j => cond (Nat.ble 3 a) (zi τ a j) (zi b a j), fun a j => cond (Nat.ble 3 a) (zr τ a j) (zr b a j), fun a j => cond (Nat.ble 3 a) (zl τ a j) (zl b a j), zn τ)
def aN (τ : zS) (n ci N : Nat) : zS := (fun a => cond (Nat.beq a n) (ci, N) (zk τ a), fun a j => cond (Nat.beq a n) 0 (zi τ a j), fun a j => cond (Nat.beq a n) none (zr τ a j), fun a j => cond (Nat.beq a n) 0 (zl τ a j), n + 1)
def aI (τ : zS) (a j : Nat) (v : Int32) : zS := (zk τ, fun x y => cond (Nat.beq x a) (cond (Nat.beq y j) v (zi τ x y)) (zi τ x y), zr τ, zl τ, zn τ)
def aR (τ : zS) (a j v : Nat) : zS := (zk τ, zi τ, fun x y => cond (Nat.beq x a) (cond (Nat.beq y j) (some v) (zr τ x y)) (zr τ x y), zl τ, zn τ)
theorem zcnd {α : Type} (a n : Nat) (x y : α) : (if a = n then x else y) = cond (Nat.beq a n) x y := by
  cases e : Nat.beq a n
  · exact if_neg (Nat.ne_of_beq_eq_false e)
  · exact if_pos (Nat.eq_of_beq_eq_true e)
theorem zcnd2 {α : Type} (a n b m : Nat) (x y : α) : (if a = n ∧ b = m then x else y) = cond (Nat.beq a n) (cond (Nat.beq b m) x y) y := by
  cases e : Nat.beq a n
  · exact if_neg (fun z => Nat.ne_of_beq_eq_false e z.1)
  · cases e2 : Nat.beq b m
    · exact if_neg (fun z => Nat.ne_of_beq_eq_false e2 z.2)
    · exact if_pos ⟨Nat.eq_of_beq_eq_true e, Nat.eq_of_beq_eq_true e2⟩
theorem zcsw {α : Type} {n : Nat} (h : Nat.ble 3 n = true) (a : Nat) (x y z : α) : cond (Nat.beq a n) x (cond (Nat.ble 3 a) y z) = cond (Nat.ble 3 a) (cond (Nat.beq a n) x y) z := by
  cases e : Nat.beq a n
  · rfl
  · rw [Nat.eq_of_beq_eq_true e, h]; rfl
theorem zov_N {b τ : zS} {n ci N : Nat} (h3 : Nat.ble 3 n = true) (hz : zn τ = n) : zNew (zOv b τ) (ci, N) = zOv b (aN τ n ci N) := by
  subst hz
  have e1 : (fun a => if a = zn τ then (ci, N) else cond (Nat.ble 3 a) (zk τ a) (zk b a)) = fun a => cond (Nat.ble 3 a) (cond (Nat.beq a (zn τ)) (ci, N) (zk τ a)) (zk b a) := funext fun a => (zcnd _ _ _ _).trans (zcsw h3 _ _ _ _)
  have e2 : (fun a j => if a = zn τ then (0 : Int32) else cond (Nat.ble 3 a) (zi τ a j) (zi b a j)) = fun a j => cond (Nat.ble 3 a) (cond (Nat.beq a (zn τ)) 0 (zi τ a j)) (zi b a j) := funext fun a => funext fun j => (zcnd _ _ _ _).trans (zcsw h3 _ _ _ _)
  have e3 : (fun a j => if a = zn τ then (none : Option Nat) else cond (Nat.ble 3 a) (zr τ a j) (zr b a j)) = fun a j => cond (Nat.ble 3 a) (cond (Nat.beq a (zn τ)) none (zr τ a j)) (zr b a j) := funext fun a => funext fun j => (zcnd _ _ _ _).trans (zcsw h3 _ _ _ _)
  have e4 : (fun a j => if a = zn τ then (0 : Int64) else cond (Nat.ble 3 a) (zl τ a j) (zl b a j)) = fun a j => cond (Nat.ble 3 a) (cond (Nat.beq a (zn τ)) 0 (zl τ a j)) (zl b a j) := funext fun a => funext fun j => (zcnd _ _ _ _).trans (zcsw h3 _ _ _ _)
  show ((fun a => if a = zn τ then (ci, N) else cond (Nat.ble 3 a) (zk τ a) (zk b a)), (fun a j => if a = zn τ then (0 : Int32) else cond (Nat.ble 3 a) (zi τ a j) (zi b a j)), (fun a j => if a = zn τ then (none : Option Nat) else cond (Nat.ble 3 a) (zr τ a j) (zr b a j)), (fun a j => if a = zn τ then (0 : Int64) else cond (Nat.ble 3 a) (zl τ a j) (zl b a j)), zn τ + 1) = _
  rw [e1, e2, e3, e4]
  rfl
theorem zov_I {b τ : zS} {n j : Nat} {v : Int32} (h3 : Nat.ble 3 n = true) : zI (zOv b τ) (zu (zi (zOv b τ)) n j v) = zOv b (aI τ n j v) := by
  have e : zu (zi (zOv b τ)) n j v = fun a y => cond (Nat.ble 3 a) (cond (Nat.beq a n) (cond (Nat.beq y j) v (zi τ a y)) (zi τ a y)) (zi b a y) := by
    funext a y
    show (if a = n ∧ y = j then v else cond (Nat.ble 3 a) (zi τ a y) (zi b a y)) = _
    rw [zcnd2]
    cases e : Nat.beq a n
    · rfl
    · rw [Nat.eq_of_beq_eq_true e, h3]; rfl
  rw [e]
  rfl
theorem zov_R {b τ : zS} {n j v : Nat} (h3 : Nat.ble 3 n = true) : zR (zOv b τ) (zu (zr (zOv b τ)) n j (some v)) = zOv b (aR τ n j v) := by
  have e : zu (zr (zOv b τ)) n j (some v) = fun a y => cond (Nat.ble 3 a) (cond (Nat.beq a n) (cond (Nat.beq y j) (some v) (zr τ a y)) (zr τ a y)) (zr b a y) := by
    funext a y
    show (if a = n ∧ y = j then some v else cond (Nat.ble 3 a) (zr τ a y) (zr b a y)) = _
    rw [zcnd2]
    cases e : Nat.beq a n
    · rfl
    · rw [Nat.eq_of_beq_eq_true e, h3]; rfl
  rw [e]
  rfl
theorem c_new {E : zE} {M : zM} {P : Nat → zOp} {d pc nx bc bs : Nat} {ls : List (Option Value)} {st : List Value} {b τ : zS} {mc ms : Nat} {Q : zQ} (ok : zOK M P) {ci N n bc' bs' : Nat} (hP : P pc = oNew ci N nx) (h3 : Nat.ble 3 n = true) (hz : zn τ = n) (h1 : bc = bc' + 1) (h2 : bs = bs' + N) (hk : zGo E d M mc ms Q nx (ls, .ref n :: st, zOv b (aN τ n ci N), bc', bs')) : zGo E d M mc ms Q pc (ls, st, zOv b τ, bc, bs) := by
  subst h1 h2
  refine zstep ok hP ⟨Nat.le_add_left 1 bc', Nat.le_add_left N bs', ?_⟩
  dsimp only
  rw [zov_N h3 hz, Nat.add_sub_cancel, Nat.add_sub_cancel, show zn (zOv b τ) = n from hz]
  exact hk
theorem c_newA {E : zE} {M : zM} {P : Nat → zOp} {d pc nx bc bs : Nat} {ls : List (Option Value)} {st : List Value} {b τ : zS} {mc ms : Nat} {Q : zQ} (ok : zOK M P) {t n bc' bs' N : Nat} {N' : Int} (hP : P pc = oNewA t nx) (eN : N' = (N : Int)) (hL : Nat.ble N 100000 = true) (h3 : Nat.ble 3 n = true) (hz : zn τ = n) (h1 : bc = bc' + 1) (h2 : bs = bs' + N) (hk : zGo E d M mc ms Q nx (ls, .ref n :: st, zOv b (aN τ n t N), bc', bs')) : zGo E d M mc ms Q pc (ls, .int (iI N') :: st, zOv b τ, bc, bs) := by
  subst h1 h2 eN
  refine zstep ok hP ⟨N, (iI_nat N).symm, Nat.le_of_ble_eq_true hL, Nat.le_add_left 1 bc', Nat.le_add_left N bs', ?_⟩
  dsimp only
  rw [zov_N h3 hz, Nat.add_sub_cancel, Nat.add_sub_cancel, show zn (zOv b τ) = n from hz]
  exact hk
theorem c_putR {E : zE} {M : zM} {P : Nat → zOp} {d pc nx bc bs : Nat} {ls : List (Option Value)} {st : List Value} {b τ : zS} {mc ms : Nat} {Q : zQ} (ok : zOK M P) {j n w : Nat} {cis : List Nat} {q : Nat × Nat} (hP : P pc = oPutR j cis nx) (h3 : Nat.ble 3 n = true) (hq : zk (zOv b τ) n = q) (hm : zmem q.1 cis = true) (hk : zGo E d M mc ms Q nx (ls, st, zOv b (aR τ n j w), bc, bs)) : zGo E d M mc ms Q pc (ls, .ref w :: .ref n :: st, zOv b τ, bc, bs) := by
  refine zstep ok hP ⟨q, hq, hm, ?_⟩
  dsimp only
  rw [zov_R h3]
  exact hk
theorem c_putI {E : zE} {M : zM} {P : Nat → zOp} {d pc nx bc bs : Nat} {ls : List (Option Value)} {st : List Value} {b τ : zS} {mc ms : Nat} {Q : zQ} (ok : zOK M P) {j n : Nat} {z : Bool} {x : Int32} {cis : List Nat} {q : Nat × Nat} (hP : P pc = oPutI j z cis nx) (h3 : Nat.ble 3 n = true) (hq : zk (zOv b τ) n = q) (hm : zmem q.1 cis = true) (hz : z = true → x = 0 ∨ x = 1) (hk : zGo E d M mc ms Q nx (ls, st, zOv b (aI τ n j x), bc, bs)) : zGo E d M mc ms Q pc (ls, .int x :: .ref n :: st, zOv b τ, bc, bs) := by
  refine zstep ok hP ⟨q, hq, hm, hz, ?_⟩
  dsimp only
  rw [zov_I h3]
  exact hk
theorem c_getR {E : zE} {M : zM} {P : Nat → zOp} {d pc nx bc bs : Nat} {ls : List (Option Value)} {st : List Value} {b τ : zS} {mc ms : Nat} {Q : zQ} (ok : zOK M P) {j n w : Nat} {cis : List Nat} {q : Nat × Nat} (hP : P pc = oGetR j cis nx) (hq : zk (zOv b τ) n = q) (hm : zmem q.1 cis = true) (hv : zr (zOv b τ) n j = some w) (hk : zGo E d M mc ms Q nx (ls, .ref w :: st, zOv b τ, bc, bs)) : zGo E d M mc ms Q pc (ls, .ref n :: st, zOv b τ, bc, bs) := by
  refine zstep ok hP ⟨q, hq, hm, some w, hv, ?_⟩
  exact hk
theorem c_aast {E : zE} {M : zM} {P : Nat → zOp} {d pc nx bc bs : Nat} {ls : List (Option Value)} {st : List Value} {b τ : zS} {mc ms : Nat} {Q : zQ} (ok : zOK M P) {t n w j L : Nat} {a : Int} {cis : List Nat} {q : Nat × Nat} (hP : P pc = oAast t cis nx) (ea : a = (j : Int)) (h3 : Nat.ble 3 n = true) (hq : zk (zOv b τ) n = (t, L)) (hL : Nat.ble L 100000 = true) (hj : Nat.ble (j + 1) L = true) (hq2 : zk (zOv b τ) w = q) (hm : zmem q.1 cis = true) (hk : zGo E d M mc ms Q nx (ls, st, zOv b (aR τ n j w), bc, bs)) : zGo E d M mc ms Q pc (ls, .ref w :: .int (iI a) :: .ref n :: st, zOv b τ, bc, bs) := by
  subst ea
  refine zstep ok hP ⟨j, L, q, hq, Nat.le_of_ble_eq_true hL, (iI_nat j).symm, Nat.le_of_ble_eq_true hj, hq2, hm, ?_⟩
  dsimp only
  rw [zov_R h3]
  exact hk
theorem c_iast {E : zE} {M : zM} {P : Nat → zOp} {d pc nx bc bs : Nat} {ls : List (Option Value)} {st : List Value} {b τ : zS} {mc ms : Nat} {Q : zQ} (ok : zOK M P) {t n j L : Nat} {a : Int} {z : Bool} {x : Int32} (hP : P pc = oIast t z nx) (ea : a = (j : Int)) (h3 : Nat.ble 3 n = true) (hq : zk (zOv b τ) n = (t, L)) (hL : Nat.ble L 100000 = true) (hj : Nat.ble (j + 1) L = true) (hz : z = true → x = 0 ∨ x = 1) (hk : zGo E d M mc ms Q nx (ls, st, zOv b (aI τ n j x), bc, bs)) : zGo E d M mc ms Q pc (ls, .int x :: .int (iI a) :: .ref n :: st, zOv b τ, bc, bs) := by
  subst ea
  refine zstep ok hP ⟨j, L, hq, Nat.le_of_ble_eq_true hL, (iI_nat j).symm, Nat.le_of_ble_eq_true hj, hz, ?_⟩
  dsimp only
  rw [zov_I h3]
  exact hk
theorem cy_new {E : zE} {M : zM} {P : Nat → zOp} {d pc nx bc bs : Nat} {ls : List (Option Value)} {st : List Value} {b τ : zS} {tb : List ExceptionTableEntry} {R : Room} {Z : zEd} (ok : zOKr M tb R d P) {ci N n bc' bs' : Nat} (hP : P pc = oNew ci N nx) (h3 : Nat.ble 3 n = true) (hz : zn τ = n) (h1 : bc = bc' + 1) (h2 : bs = bs' + N) (hk : zGy E M tb R Z nx (ls, .ref n :: st, zOv b (aN τ n ci N), bc', bs')) : zGy E M tb R Z pc (ls, st, zOv b τ, bc, bs) := by
  subst h1 h2
  refine zstepy ok hP ⟨Nat.le_add_left 1 bc', Nat.le_add_left N bs', ?_⟩
  dsimp only
  rw [zov_N h3 hz, Nat.add_sub_cancel, Nat.add_sub_cancel, show zn (zOv b τ) = n from hz]
  exact hk
theorem cy_newA {E : zE} {M : zM} {P : Nat → zOp} {d pc nx bc bs : Nat} {ls : List (Option Value)} {st : List Value} {b τ : zS} {tb : List ExceptionTableEntry} {R : Room} {Z : zEd} (ok : zOKr M tb R d P) {t n bc' bs' N : Nat} {N' : Int} (hP : P pc = oNewA t nx) (eN : N' = (N : Int)) (hL : Nat.ble N 100000 = true) (h3 : Nat.ble 3 n = true) (hz : zn τ = n) (h1 : bc = bc' + 1) (h2 : bs = bs' + N) (hk : zGy E M tb R Z nx (ls, .ref n :: st, zOv b (aN τ n t N), bc', bs')) : zGy E M tb R Z pc (ls, .int (iI N') :: st, zOv b τ, bc, bs) := by
  subst h1 h2 eN
  refine zstepy ok hP ⟨N, (iI_nat N).symm, Nat.le_of_ble_eq_true hL, Nat.le_add_left 1 bc', Nat.le_add_left N bs', ?_⟩
  dsimp only
  rw [zov_N h3 hz, Nat.add_sub_cancel, Nat.add_sub_cancel, show zn (zOv b τ) = n from hz]
  exact hk
theorem cy_putR {E : zE} {M : zM} {P : Nat → zOp} {d pc nx bc bs : Nat} {ls : List (Option Value)} {st : List Value} {b τ : zS} {tb : List ExceptionTableEntry} {R : Room} {Z : zEd} (ok : zOKr M tb R d P) {j n w : Nat} {cis : List Nat} {q : Nat × Nat} (hP : P pc = oPutR j cis nx) (h3 : Nat.ble 3 n = true) (hq : zk (zOv b τ) n = q) (hm : zmem q.1 cis = true) (hk : zGy E M tb R Z nx (ls, st, zOv b (aR τ n j w), bc, bs)) : zGy E M tb R Z pc (ls, .ref w :: .ref n :: st, zOv b τ, bc, bs) := by
  refine zstepy ok hP ⟨q, hq, hm, ?_⟩
  dsimp only
  rw [zov_R h3]
  exact hk
theorem cy_putI {E : zE} {M : zM} {P : Nat → zOp} {d pc nx bc bs : Nat} {ls : List (Option Value)} {st : List Value} {b τ : zS} {tb : List ExceptionTableEntry} {R : Room} {Z : zEd} (ok : zOKr M tb R d P) {j n : Nat} {z : Bool} {x : Int32} {cis : List Nat} {q : Nat × Nat} (hP : P pc = oPutI j z cis nx) (h3 : Nat.ble 3 n = true) (hq : zk (zOv b τ) n = q) (hm : zmem q.1 cis = true) (hz : z = true → x = 0 ∨ x = 1) (hk : zGy E M tb R Z nx (ls, st, zOv b (aI τ n j x), bc, bs)) : zGy E M tb R Z pc (ls, .int x :: .ref n :: st, zOv b τ, bc, bs) := by
  refine zstepy ok hP ⟨q, hq, hm, hz, ?_⟩
  dsimp only
  rw [zov_I h3]
  exact hk
theorem cy_getR {E : zE} {M : zM} {P : Nat → zOp} {d pc nx bc bs : Nat} {ls : List (Option Value)} {st : List Value} {b τ : zS} {tb : List ExceptionTableEntry} {R : Room} {Z : zEd} (ok : zOKr M tb R d P) {j n w : Nat} {cis : List Nat} {q : Nat × Nat} (hP : P pc = oGetR j cis nx) (hq : zk (zOv b τ) n = q) (hm : zmem q.1 cis = true) (hv : zr (zOv b τ) n j = some w) (hk : zGy E M tb R Z nx (ls, .ref w :: st, zOv b τ, bc, bs)) : zGy E M tb R Z pc (ls, .ref n :: st, zOv b τ, bc, bs) := by
  refine zstepy ok hP ⟨q, hq, hm, some w, hv, ?_⟩
  exact hk
theorem cy_aast {E : zE} {M : zM} {P : Nat → zOp} {d pc nx bc bs : Nat} {ls : List (Option Value)} {st : List Value} {b τ : zS} {tb : List ExceptionTableEntry} {R : Room} {Z : zEd} (ok : zOKr M tb R d P) {t n w j L : Nat} {a : Int} {cis : List Nat} {q : Nat × Nat} (hP : P pc = oAast t cis nx) (ea : a = (j : Int)) (h3 : Nat.ble 3 n = true) (hq : zk (zOv b τ) n = (t, L)) (hL : Nat.ble L 100000 = true) (hj : Nat.ble (j + 1) L = true) (hq2 : zk (zOv b τ) w = q) (hm : zmem q.1 cis = true) (hk : zGy E M tb R Z nx (ls, st, zOv b (aR τ n j w), bc, bs)) : zGy E M tb R Z pc (ls, .ref w :: .int (iI a) :: .ref n :: st, zOv b τ, bc, bs) := by
  subst ea
  refine zstepy ok hP ⟨j, L, q, hq, Nat.le_of_ble_eq_true hL, (iI_nat j).symm, Nat.le_of_ble_eq_true hj, hq2, hm, ?_⟩
  dsimp only
  rw [zov_R h3]
  exact hk
theorem cy_iast {E : zE} {M : zM} {P : Nat → zOp} {d pc nx bc bs : Nat} {ls : List (Option Value)} {st : List Value} {b τ : zS} {tb : List ExceptionTableEntry} {R : Room} {Z : zEd} (ok : zOKr M tb R d P) {t n j L : Nat} {a : Int} {z : Bool} {x : Int32} (hP : P pc = oIast t z nx) (ea : a = (j : Int)) (h3 : Nat.ble 3 n = true) (hq : zk (zOv b τ) n = (t, L)) (hL : Nat.ble L 100000 = true) (hj : Nat.ble (j + 1) L = true) (hz : z = true → x = 0 ∨ x = 1) (hk : zGy E M tb R Z nx (ls, st, zOv b (aI τ n j x), bc, bs)) : zGy E M tb R Z pc (ls, .int x :: .int (iI a) :: .ref n :: st, zOv b τ, bc, bs) := by
  subst ea
  refine zstepy ok hP ⟨j, L, hq, Nat.le_of_ble_eq_true hL, (iI_nat j).symm, Nat.le_of_ble_eq_true hj, hz, ?_⟩
  dsimp only
  rw [zov_I h3]
  exact hk
def tL0 : zS := aN zq0 3 11 9
def tp1 : zS := (aN tL0 4 3 11)
def tp2 : zS := (aN (aR (aI (aI (aI (aI (aN (aR (aI (aI (aI (aI (aN (aR (aN (aR (aN (aR (aN (aI (aR (aN (aR (aN (aR (aN (aR (aN (aI tp1 4 0 (iI 0)) 5 19 8) 4 1 5) 6 16 8) 4 2 6) 7 16 8) 4 3 7) 8 16 8) 4 4 8) 4 5 (iI 0)) 9 16 4) 4 6 9) 10 16 4) 4 7 10) 11 17 4) 4 8 11) 12 16 4) 12 0 (iI 10)) 12 1 (iI 10)) 12 2 (iI 10)) 12 3 (iI 10)) 4 9 12) 13 16 4) 13 0 (iI 10)) 13 1 (iI 8)) 13 2 (iI 5)) 13 3 (iI 2)) 4 10 13) 14 10 2)
def tq3 : zS := (aI (aI tp2 14 0 (iI 0)) 14 1 (iI 0))
set_option maxRecDepth 100000 in
theorem cc_X10_init_14 {E : zE} {d : Nat} {b : zS} : zCT E (d + 1) M_X10_init [.ref 14, .int (iI 0), .int (iI 0)] (zOv b tp2) 0 0 (zUx (fun s => s = zOv b tq3)) := by
  have ok := ok_X10_init
  refine zCT_of pn_X10_init (Nat.le_of_ble_eq_true rfl) ?_
  show zGo _ _ _ _ _ _ 0 ([some (.ref 14), some (.int (iI 0)), some (.int (iI 0))], [], _, 0, 0)
  refine s_ldA0 ok rfl ?_
  refine s_obj ok rfl rfl rfl ?_
  refine s_ldA0 ok rfl ?_
  refine s_ldI1 ok rfl ?_
  refine c_putI ok rfl rfl (by exact rfl) rfl (fun q => by cases q) ?_
  refine s_ldA0 ok rfl ?_
  refine s_ldI2 ok rfl ?_
  refine c_putI ok rfl rfl (by exact rfl) rfl (fun q => by cases q) ?_
  exact s_retV ok rfl ⟨rfl, rfl⟩
def tq4 : zS := (aR (aR (aR (aR (aR (aR (aR (aR tq3 5 0 14) 5 1 14) 5 2 14) 5 3 14) 5 4 14) 5 5 14) 5 6 14) 5 7 14)
set_option maxRecDepth 100000 in
theorem cc_X3_init_4 {E : zE} {d : Nat} {b : zS} : zCT E (d + 2) M_X3_init [.ref 4] (zOv b tp1) 10 54 (zUx (fun s => s = zOv b tq4)) := by
  have ok := ok_X3_init
  refine zCT_of pn_X3_init (Nat.le_of_ble_eq_true rfl) ?_
  show zGo _ _ _ _ _ _ 0 ([some (.ref 4), none, none], [], _, 10, 54)
  refine s_ldA0 ok rfl ?_
  refine s_obj ok rfl rfl rfl ?_
  refine s_ldA0 ok rfl ?_
  refine s_ci ok rfl ?_
  refine c_putI ok rfl rfl (by exact rfl) rfl (fun q => by cases q) ?_
  refine s_ldA0 ok rfl ?_
  refine s_ci ok rfl ?_
  refine c_newA (n := 5) (N := 8) (bc' := 9) (bs' := 46) ok rfl rfl rfl rfl rfl rfl rfl ?_
  refine c_putR ok rfl rfl (by exact rfl) rfl ?_
  refine s_ldA0 ok rfl ?_
  refine s_ci ok rfl ?_
  refine c_newA (n := 6) (N := 8) (bc' := 8) (bs' := 38) ok rfl rfl rfl rfl rfl rfl rfl ?_
  refine c_putR ok rfl rfl (by exact rfl) rfl ?_
  refine s_ldA0 ok rfl ?_
  refine s_ci ok rfl ?_
  refine c_newA (n := 7) (N := 8) (bc' := 7) (bs' := 30) ok rfl rfl rfl rfl rfl rfl rfl ?_
  refine c_putR ok rfl rfl (by exact rfl) rfl ?_
  refine s_ldA0 ok rfl ?_
  refine s_ci ok rfl ?_
  refine c_newA (n := 8) (N := 8) (bc' := 6) (bs' := 22) ok rfl rfl rfl rfl rfl rfl rfl ?_
  refine c_putR ok rfl rfl (by exact rfl) rfl ?_
  refine s_ldA0 ok rfl ?_
  refine s_ci ok rfl ?_
  refine c_putI ok rfl rfl (by exact rfl) rfl (fun q => by cases q) ?_
  refine s_ldA0 ok rfl ?_
  refine s_ci ok rfl ?_
  refine c_newA (n := 9) (N := 4) (bc' := 5) (bs' := 18) ok rfl rfl rfl rfl rfl rfl rfl ?_
  refine c_putR ok rfl rfl (by exact rfl) rfl ?_
  refine s_ldA0 ok rfl ?_
  refine s_ci ok rfl ?_
  refine c_newA (n := 10) (N := 4) (bc' := 4) (bs' := 14) ok rfl rfl rfl rfl rfl rfl rfl ?_
  refine c_putR ok rfl rfl (by exact rfl) rfl ?_
  refine s_ldA0 ok rfl ?_
  refine s_ci ok rfl ?_
  refine c_newA (n := 11) (N := 4) (bc' := 3) (bs' := 10) ok rfl rfl rfl rfl rfl rfl rfl ?_
  refine c_putR ok rfl rfl (by exact rfl) rfl ?_
  refine s_ldA0 ok rfl ?_
  refine s_ci ok rfl ?_
  refine c_newA (n := 12) (N := 4) (bc' := 2) (bs' := 6) ok rfl rfl rfl rfl rfl rfl rfl ?_
  refine s_dupA ok rfl ?_
  refine s_ci ok rfl ?_
  refine s_ci ok rfl ?_
  refine c_iast (j := 0) ok rfl rfl rfl (by exact rfl) rfl rfl (fun q => by cases q) ?_
  refine s_dupA ok rfl ?_
  refine s_ci ok rfl ?_
  refine s_ci ok rfl ?_
  refine c_iast (j := 1) ok rfl rfl rfl (by exact rfl) rfl rfl (fun q => by cases q) ?_
  refine s_dupA ok rfl ?_
  refine s_ci ok rfl ?_
  refine s_ci ok rfl ?_
  refine c_iast (j := 2) ok rfl rfl rfl (by exact rfl) rfl rfl (fun q => by cases q) ?_
  refine s_dupA ok rfl ?_
  refine s_ci ok rfl ?_
  refine s_ci ok rfl ?_
  refine c_iast (j := 3) ok rfl rfl rfl (by exact rfl) rfl rfl (fun q => by cases q) ?_
  refine c_putR ok rfl rfl (by exact rfl) rfl ?_
  refine s_ldA0 ok rfl ?_
  refine s_ci ok rfl ?_
  refine c_newA (n := 13) (N := 4) (bc' := 1) (bs' := 2) ok rfl rfl rfl rfl rfl rfl rfl ?_
  refine s_dupA ok rfl ?_
  refine s_ci ok rfl ?_
  refine s_ci ok rfl ?_
  refine c_iast (j := 0) ok rfl rfl rfl (by exact rfl) rfl rfl (fun q => by cases q) ?_
  refine s_dupA ok rfl ?_
  refine s_ci ok rfl ?_
  refine s_ci ok rfl ?_
  refine c_iast (j := 1) ok rfl rfl rfl (by exact rfl) rfl rfl (fun q => by cases q) ?_
  refine s_dupA ok rfl ?_
  refine s_ci ok rfl ?_
  refine s_ci ok rfl ?_
  refine c_iast (j := 2) ok rfl rfl rfl (by exact rfl) rfl rfl (fun q => by cases q) ?_
  refine s_dupA ok rfl ?_
  refine s_ci ok rfl ?_
  refine s_ci ok rfl ?_
  refine c_iast (j := 3) ok rfl rfl rfl (by exact rfl) rfl rfl (fun q => by cases q) ?_
  refine c_putR ok rfl rfl (by exact rfl) rfl ?_
  refine c_new (n := 14) (bc' := 0) (bs' := 0) ok rfl rfl rfl rfl rfl ?_
  refine s_dupA ok rfl ?_
  refine s_ci ok rfl ?_
  refine s_ci ok rfl ?_
  refine s_callO ok rfl rfl rfl rfl (cc_X10_init_14 (b := b)) (Nat.le_of_ble_eq_true rfl) (Nat.le_of_ble_eq_true rfl) (fun σ9 e9 => ?_)
  subst e9
  show zGo _ _ _ _ _ _ 129 (_, _, _, 0, 0)
  refine s_stA1 ok rfl rfl ?_
  refine s_ci ok rfl ?_
  refine s_stI2 ok rfl rfl ?_
  refine s_ldI2 ok rfl ?_
  refine s_ci ok rfl ?_
  refine s_c_ge ok rfl ⟨by decide, by decide⟩ ⟨by decide, by decide⟩ (fun c => absurd c (by decide)) (fun _ => ?_)
  refine s_ldA0 ok rfl ?_
  refine c_getR (w := 5) ok rfl (by exact rfl) rfl (by exact rfl) ?_
  refine s_ldI2 ok rfl ?_
  refine s_ldA1 ok rfl ?_
  refine c_aast (j := 0) ok rfl rfl rfl (by exact rfl) rfl rfl (by exact rfl) rfl ?_
  refine s_inc2 ok rfl rfl ?_
  refine s_goto ok rfl ?_
  refine s_ldI2 ok rfl ?_
  refine s_ci ok rfl ?_
  refine s_c_ge ok rfl ⟨by decide, by decide⟩ ⟨by decide, by decide⟩ (fun c => absurd c (by decide)) (fun _ => ?_)
  refine s_ldA0 ok rfl ?_
  refine c_getR (w := 5) ok rfl (by exact rfl) rfl (by exact rfl) ?_
  refine s_ldI2 ok rfl ?_
  refine s_ldA1 ok rfl ?_
  refine c_aast (j := 1) ok rfl rfl rfl (by exact rfl) rfl rfl (by exact rfl) rfl ?_
  refine s_inc2 ok rfl rfl ?_
  refine s_goto ok rfl ?_
  refine s_ldI2 ok rfl ?_
  refine s_ci ok rfl ?_
  refine s_c_ge ok rfl ⟨by decide, by decide⟩ ⟨by decide, by decide⟩ (fun c => absurd c (by decide)) (fun _ => ?_)
  refine s_ldA0 ok rfl ?_
  refine c_getR (w := 5) ok rfl (by exact rfl) rfl (by exact rfl) ?_
  refine s_ldI2 ok rfl ?_
  refine s_ldA1 ok rfl ?_
  refine c_aast (j := 2) ok rfl rfl rfl (by exact rfl) rfl rfl (by exact rfl) rfl ?_
  refine s_inc2 ok rfl rfl ?_
  refine s_goto ok rfl ?_
  refine s_ldI2 ok rfl ?_
  refine s_ci ok rfl ?_
  refine s_c_ge ok rfl ⟨by decide, by decide⟩ ⟨by decide, by decide⟩ (fun c => absurd c (by decide)) (fun _ => ?_)
  refine s_ldA0 ok rfl ?_
  refine c_getR (w := 5) ok rfl (by exact rfl) rfl (by exact rfl) ?_
  refine s_ldI2 ok rfl ?_
  refine s_ldA1 ok rfl ?_
  refine c_aast (j := 3) ok rfl rfl rfl (by exact rfl) rfl rfl (by exact rfl) rfl ?_
  refine s_inc2 ok rfl rfl ?_
  refine s_goto ok rfl ?_
  refine s_ldI2 ok rfl ?_
  refine s_ci ok rfl ?_
  refine s_c_ge ok rfl ⟨by decide, by decide⟩ ⟨by decide, by decide⟩ (fun c => absurd c (by decide)) (fun _ => ?_)
  refine s_ldA0 ok rfl ?_
  refine c_getR (w := 5) ok rfl (by exact rfl) rfl (by exact rfl) ?_
  refine s_ldI2 ok rfl ?_
  refine s_ldA1 ok rfl ?_
  refine c_aast (j := 4) ok rfl rfl rfl (by exact rfl) rfl rfl (by exact rfl) rfl ?_
  refine s_inc2 ok rfl rfl ?_
  refine s_goto ok rfl ?_
  refine s_ldI2 ok rfl ?_
  refine s_ci ok rfl ?_
  refine s_c_ge ok rfl ⟨by decide, by decide⟩ ⟨by decide, by decide⟩ (fun c => absurd c (by decide)) (fun _ => ?_)
  refine s_ldA0 ok rfl ?_
  refine c_getR (w := 5) ok rfl (by exact rfl) rfl (by exact rfl) ?_
  refine s_ldI2 ok rfl ?_
  refine s_ldA1 ok rfl ?_
  refine c_aast (j := 5) ok rfl rfl rfl (by exact rfl) rfl rfl (by exact rfl) rfl ?_
  refine s_inc2 ok rfl rfl ?_
  refine s_goto ok rfl ?_
  refine s_ldI2 ok rfl ?_
  refine s_ci ok rfl ?_
  refine s_c_ge ok rfl ⟨by decide, by decide⟩ ⟨by decide, by decide⟩ (fun c => absurd c (by decide)) (fun _ => ?_)
  refine s_ldA0 ok rfl ?_
  refine c_getR (w := 5) ok rfl (by exact rfl) rfl (by exact rfl) ?_
  refine s_ldI2 ok rfl ?_
  refine s_ldA1 ok rfl ?_
  refine c_aast (j := 6) ok rfl rfl rfl (by exact rfl) rfl rfl (by exact rfl) rfl ?_
  refine s_inc2 ok rfl rfl ?_
  refine s_goto ok rfl ?_
  refine s_ldI2 ok rfl ?_
  refine s_ci ok rfl ?_
  refine s_c_ge ok rfl ⟨by decide, by decide⟩ ⟨by decide, by decide⟩ (fun c => absurd c (by decide)) (fun _ => ?_)
  refine s_ldA0 ok rfl ?_
  refine c_getR (w := 5) ok rfl (by exact rfl) rfl (by exact rfl) ?_
  refine s_ldI2 ok rfl ?_
  refine s_ldA1 ok rfl ?_
  refine c_aast (j := 7) ok rfl rfl rfl (by exact rfl) rfl rfl (by exact rfl) rfl ?_
  refine s_inc2 ok rfl rfl ?_
  refine s_goto ok rfl ?_
  refine s_ldI2 ok rfl ?_
  refine s_ci ok rfl ?_
  refine s_c_ge ok rfl ⟨by decide, by decide⟩ ⟨by decide, by decide⟩ (fun _ => ?_) (fun c => absurd c (by decide))
  exact s_retV ok rfl ⟨rfl, rfl⟩
def tp5 : zS := (aN (aR tq4 3 0 4) 15 3 11)
def tp6 : zS := (aN (aR (aI (aI (aI (aI (aN (aR (aI (aI (aI (aI (aN (aR (aN (aR (aN (aR (aN (aI (aR (aN (aR (aN (aR (aN (aR (aN (aI tp5 15 0 (iI 0)) 16 19 8) 15 1 16) 17 16 8) 15 2 17) 18 16 8) 15 3 18) 19 16 8) 15 4 19) 15 5 (iI 0)) 20 16 4) 15 6 20) 21 16 4) 15 7 21) 22 17 4) 15 8 22) 23 16 4) 23 0 (iI 10)) 23 1 (iI 10)) 23 2 (iI 10)) 23 3 (iI 10)) 15 9 23) 24 16 4) 24 0 (iI 10)) 24 1 (iI 8)) 24 2 (iI 5)) 24 3 (iI 2)) 15 10 24) 25 10 2)
def tq7 : zS := (aI (aI tp6 25 0 (iI 0)) 25 1 (iI 0))
set_option maxRecDepth 100000 in
theorem cc_X10_init_25 {E : zE} {d : Nat} {b : zS} : zCT E (d + 1) M_X10_init [.ref 25, .int (iI 0), .int (iI 0)] (zOv b tp6) 0 0 (zUx (fun s => s = zOv b tq7)) := by
  have ok := ok_X10_init
  refine zCT_of pn_X10_init (Nat.le_of_ble_eq_true rfl) ?_
  show zGo _ _ _ _ _ _ 0 ([some (.ref 25), some (.int (iI 0)), some (.int (iI 0))], [], _, 0, 0)
  refine s_ldA0 ok rfl ?_
  refine s_obj ok rfl rfl rfl ?_
  refine s_ldA0 ok rfl ?_
  refine s_ldI1 ok rfl ?_
  refine c_putI ok rfl rfl (by exact rfl) rfl (fun q => by cases q) ?_
  refine s_ldA0 ok rfl ?_
  refine s_ldI2 ok rfl ?_
  refine c_putI ok rfl rfl (by exact rfl) rfl (fun q => by cases q) ?_
  exact s_retV ok rfl ⟨rfl, rfl⟩
def tq8 : zS := (aR (aR (aR (aR (aR (aR (aR (aR tq7 16 0 25) 16 1 25) 16 2 25) 16 3 25) 16 4 25) 16 5 25) 16 6 25) 16 7 25)
set_option maxRecDepth 100000 in
theorem cc_X3_init_15 {E : zE} {d : Nat} {b : zS} : zCT E (d + 2) M_X3_init [.ref 15] (zOv b tp5) 10 54 (zUx (fun s => s = zOv b tq8)) := by
  have ok := ok_X3_init
  refine zCT_of pn_X3_init (Nat.le_of_ble_eq_true rfl) ?_
  show zGo _ _ _ _ _ _ 0 ([some (.ref 15), none, none], [], _, 10, 54)
  refine s_ldA0 ok rfl ?_
  refine s_obj ok rfl rfl rfl ?_
  refine s_ldA0 ok rfl ?_
  refine s_ci ok rfl ?_
  refine c_putI ok rfl rfl (by exact rfl) rfl (fun q => by cases q) ?_
  refine s_ldA0 ok rfl ?_
  refine s_ci ok rfl ?_
  refine c_newA (n := 16) (N := 8) (bc' := 9) (bs' := 46) ok rfl rfl rfl rfl rfl rfl rfl ?_
  refine c_putR ok rfl rfl (by exact rfl) rfl ?_
  refine s_ldA0 ok rfl ?_
  refine s_ci ok rfl ?_
  refine c_newA (n := 17) (N := 8) (bc' := 8) (bs' := 38) ok rfl rfl rfl rfl rfl rfl rfl ?_
  refine c_putR ok rfl rfl (by exact rfl) rfl ?_
  refine s_ldA0 ok rfl ?_
  refine s_ci ok rfl ?_
  refine c_newA (n := 18) (N := 8) (bc' := 7) (bs' := 30) ok rfl rfl rfl rfl rfl rfl rfl ?_
  refine c_putR ok rfl rfl (by exact rfl) rfl ?_
  refine s_ldA0 ok rfl ?_
  refine s_ci ok rfl ?_
  refine c_newA (n := 19) (N := 8) (bc' := 6) (bs' := 22) ok rfl rfl rfl rfl rfl rfl rfl ?_
  refine c_putR ok rfl rfl (by exact rfl) rfl ?_
  refine s_ldA0 ok rfl ?_
  refine s_ci ok rfl ?_
  refine c_putI ok rfl rfl (by exact rfl) rfl (fun q => by cases q) ?_
  refine s_ldA0 ok rfl ?_
  refine s_ci ok rfl ?_
  refine c_newA (n := 20) (N := 4) (bc' := 5) (bs' := 18) ok rfl rfl rfl rfl rfl rfl rfl ?_
  refine c_putR ok rfl rfl (by exact rfl) rfl ?_
  refine s_ldA0 ok rfl ?_
  refine s_ci ok rfl ?_
  refine c_newA (n := 21) (N := 4) (bc' := 4) (bs' := 14) ok rfl rfl rfl rfl rfl rfl rfl ?_
  refine c_putR ok rfl rfl (by exact rfl) rfl ?_
  refine s_ldA0 ok rfl ?_
  refine s_ci ok rfl ?_
  refine c_newA (n := 22) (N := 4) (bc' := 3) (bs' := 10) ok rfl rfl rfl rfl rfl rfl rfl ?_
  refine c_putR ok rfl rfl (by exact rfl) rfl ?_
  refine s_ldA0 ok rfl ?_
  refine s_ci ok rfl ?_
  refine c_newA (n := 23) (N := 4) (bc' := 2) (bs' := 6) ok rfl rfl rfl rfl rfl rfl rfl ?_
  refine s_dupA ok rfl ?_
  refine s_ci ok rfl ?_
  refine s_ci ok rfl ?_
  refine c_iast (j := 0) ok rfl rfl rfl (by exact rfl) rfl rfl (fun q => by cases q) ?_
  refine s_dupA ok rfl ?_
  refine s_ci ok rfl ?_
  refine s_ci ok rfl ?_
  refine c_iast (j := 1) ok rfl rfl rfl (by exact rfl) rfl rfl (fun q => by cases q) ?_
  refine s_dupA ok rfl ?_
  refine s_ci ok rfl ?_
  refine s_ci ok rfl ?_
  refine c_iast (j := 2) ok rfl rfl rfl (by exact rfl) rfl rfl (fun q => by cases q) ?_
  refine s_dupA ok rfl ?_
  refine s_ci ok rfl ?_
  refine s_ci ok rfl ?_
  refine c_iast (j := 3) ok rfl rfl rfl (by exact rfl) rfl rfl (fun q => by cases q) ?_
  refine c_putR ok rfl rfl (by exact rfl) rfl ?_
  refine s_ldA0 ok rfl ?_
  refine s_ci ok rfl ?_
  refine c_newA (n := 24) (N := 4) (bc' := 1) (bs' := 2) ok rfl rfl rfl rfl rfl rfl rfl ?_
  refine s_dupA ok rfl ?_
  refine s_ci ok rfl ?_
  refine s_ci ok rfl ?_
  refine c_iast (j := 0) ok rfl rfl rfl (by exact rfl) rfl rfl (fun q => by cases q) ?_
  refine s_dupA ok rfl ?_
  refine s_ci ok rfl ?_
  refine s_ci ok rfl ?_
  refine c_iast (j := 1) ok rfl rfl rfl (by exact rfl) rfl rfl (fun q => by cases q) ?_
  refine s_dupA ok rfl ?_
  refine s_ci ok rfl ?_
  refine s_ci ok rfl ?_
  refine c_iast (j := 2) ok rfl rfl rfl (by exact rfl) rfl rfl (fun q => by cases q) ?_
  refine s_dupA ok rfl ?_
  refine s_ci ok rfl ?_
  refine s_ci ok rfl ?_
  refine c_iast (j := 3) ok rfl rfl rfl (by exact rfl) rfl rfl (fun q => by cases q) ?_
  refine c_putR ok rfl rfl (by exact rfl) rfl ?_
  refine c_new (n := 25) (bc' := 0) (bs' := 0) ok rfl rfl rfl rfl rfl ?_
  refine s_dupA ok rfl ?_
  refine s_ci ok rfl ?_
  refine s_ci ok rfl ?_
  refine s_callO ok rfl rfl rfl rfl (cc_X10_init_25 (b := b)) (Nat.le_of_ble_eq_true rfl) (Nat.le_of_ble_eq_true rfl) (fun σ9 e9 => ?_)
  subst e9
  show zGo _ _ _ _ _ _ 129 (_, _, _, 0, 0)
  refine s_stA1 ok rfl rfl ?_
  refine s_ci ok rfl ?_
  refine s_stI2 ok rfl rfl ?_
  refine s_ldI2 ok rfl ?_
  refine s_ci ok rfl ?_
  refine s_c_ge ok rfl ⟨by decide, by decide⟩ ⟨by decide, by decide⟩ (fun c => absurd c (by decide)) (fun _ => ?_)
  refine s_ldA0 ok rfl ?_
  refine c_getR (w := 16) ok rfl (by exact rfl) rfl (by exact rfl) ?_
  refine s_ldI2 ok rfl ?_
  refine s_ldA1 ok rfl ?_
  refine c_aast (j := 0) ok rfl rfl rfl (by exact rfl) rfl rfl (by exact rfl) rfl ?_
  refine s_inc2 ok rfl rfl ?_
  refine s_goto ok rfl ?_
  refine s_ldI2 ok rfl ?_
  refine s_ci ok rfl ?_
  refine s_c_ge ok rfl ⟨by decide, by decide⟩ ⟨by decide, by decide⟩ (fun c => absurd c (by decide)) (fun _ => ?_)
  refine s_ldA0 ok rfl ?_
  refine c_getR (w := 16) ok rfl (by exact rfl) rfl (by exact rfl) ?_
  refine s_ldI2 ok rfl ?_
  refine s_ldA1 ok rfl ?_
  refine c_aast (j := 1) ok rfl rfl rfl (by exact rfl) rfl rfl (by exact rfl) rfl ?_
  refine s_inc2 ok rfl rfl ?_
  refine s_goto ok rfl ?_
  refine s_ldI2 ok rfl ?_
  refine s_ci ok rfl ?_
  refine s_c_ge ok rfl ⟨by decide, by decide⟩ ⟨by decide, by decide⟩ (fun c => absurd c (by decide)) (fun _ => ?_)
  refine s_ldA0 ok rfl ?_
  refine c_getR (w := 16) ok rfl (by exact rfl) rfl (by exact rfl) ?_
  refine s_ldI2 ok rfl ?_
  refine s_ldA1 ok rfl ?_
  refine c_aast (j := 2) ok rfl rfl rfl (by exact rfl) rfl rfl (by exact rfl) rfl ?_
  refine s_inc2 ok rfl rfl ?_
  refine s_goto ok rfl ?_
  refine s_ldI2 ok rfl ?_
  refine s_ci ok rfl ?_
  refine s_c_ge ok rfl ⟨by decide, by decide⟩ ⟨by decide, by decide⟩ (fun c => absurd c (by decide)) (fun _ => ?_)
  refine s_ldA0 ok rfl ?_
  refine c_getR (w := 16) ok rfl (by exact rfl) rfl (by exact rfl) ?_
  refine s_ldI2 ok rfl ?_
  refine s_ldA1 ok rfl ?_
  refine c_aast (j := 3) ok rfl rfl rfl (by exact rfl) rfl rfl (by exact rfl) rfl ?_
  refine s_inc2 ok rfl rfl ?_
  refine s_goto ok rfl ?_
  refine s_ldI2 ok rfl ?_
  refine s_ci ok rfl ?_
  refine s_c_ge ok rfl ⟨by decide, by decide⟩ ⟨by decide, by decide⟩ (fun c => absurd c (by decide)) (fun _ => ?_)
  refine s_ldA0 ok rfl ?_
  refine c_getR (w := 16) ok rfl (by exact rfl) rfl (by exact rfl) ?_
  refine s_ldI2 ok rfl ?_
  refine s_ldA1 ok rfl ?_
  refine c_aast (j := 4) ok rfl rfl rfl (by exact rfl) rfl rfl (by exact rfl) rfl ?_
  refine s_inc2 ok rfl rfl ?_
  refine s_goto ok rfl ?_
  refine s_ldI2 ok rfl ?_
  refine s_ci ok rfl ?_
  refine s_c_ge ok rfl ⟨by decide, by decide⟩ ⟨by decide, by decide⟩ (fun c => absurd c (by decide)) (fun _ => ?_)
  refine s_ldA0 ok rfl ?_
  refine c_getR (w := 16) ok rfl (by exact rfl) rfl (by exact rfl) ?_
  refine s_ldI2 ok rfl ?_
  refine s_ldA1 ok rfl ?_
  refine c_aast (j := 5) ok rfl rfl rfl (by exact rfl) rfl rfl (by exact rfl) rfl ?_
  refine s_inc2 ok rfl rfl ?_
  refine s_goto ok rfl ?_
  refine s_ldI2 ok rfl ?_
  refine s_ci ok rfl ?_
  refine s_c_ge ok rfl ⟨by decide, by decide⟩ ⟨by decide, by decide⟩ (fun c => absurd c (by decide)) (fun _ => ?_)
  refine s_ldA0 ok rfl ?_
  refine c_getR (w := 16) ok rfl (by exact rfl) rfl (by exact rfl) ?_
  refine s_ldI2 ok rfl ?_
  refine s_ldA1 ok rfl ?_
  refine c_aast (j := 6) ok rfl rfl rfl (by exact rfl) rfl rfl (by exact rfl) rfl ?_
  refine s_inc2 ok rfl rfl ?_
  refine s_goto ok rfl ?_
  refine s_ldI2 ok rfl ?_
  refine s_ci ok rfl ?_
  refine s_c_ge ok rfl ⟨by decide, by decide⟩ ⟨by decide, by decide⟩ (fun c => absurd c (by decide)) (fun _ => ?_)
  refine s_ldA0 ok rfl ?_
  refine c_getR (w := 16) ok rfl (by exact rfl) rfl (by exact rfl) ?_
  refine s_ldI2 ok rfl ?_
  refine s_ldA1 ok rfl ?_
  refine c_aast (j := 7) ok rfl rfl rfl (by exact rfl) rfl rfl (by exact rfl) rfl ?_
  refine s_inc2 ok rfl rfl ?_
  refine s_goto ok rfl ?_
  refine s_ldI2 ok rfl ?_
  refine s_ci ok rfl ?_
  refine s_c_ge ok rfl ⟨by decide, by decide⟩ ⟨by decide, by decide⟩ (fun _ => ?_) (fun c => absurd c (by decide))
  exact s_retV ok rfl ⟨rfl, rfl⟩
def tp9 : zS := (aN (aR tq8 3 1 15) 26 3 11)
def tp10 : zS := (aN (aR (aI (aI (aI (aI (aN (aR (aI (aI (aI (aI (aN (aR (aN (aR (aN (aR (aN (aI (aR (aN (aR (aN (aR (aN (aR (aN (aI tp9 26 0 (iI 0)) 27 19 8) 26 1 27) 28 16 8) 26 2 28) 29 16 8) 26 3 29) 30 16 8) 26 4 30) 26 5 (iI 0)) 31 16 4) 26 6 31) 32 16 4) 26 7 32) 33 17 4) 26 8 33) 34 16 4) 34 0 (iI 10)) 34 1 (iI 10)) 34 2 (iI 10)) 34 3 (iI 10)) 26 9 34) 35 16 4) 35 0 (iI 10)) 35 1 (iI 8)) 35 2 (iI 5)) 35 3 (iI 2)) 26 10 35) 36 10 2)
def tq11 : zS := (aI (aI tp10 36 0 (iI 0)) 36 1 (iI 0))
set_option maxRecDepth 100000 in
theorem cc_X10_init_36 {E : zE} {d : Nat} {b : zS} : zCT E (d + 1) M_X10_init [.ref 36, .int (iI 0), .int (iI 0)] (zOv b tp10) 0 0 (zUx (fun s => s = zOv b tq11)) := by
  have ok := ok_X10_init
  refine zCT_of pn_X10_init (Nat.le_of_ble_eq_true rfl) ?_
  show zGo _ _ _ _ _ _ 0 ([some (.ref 36), some (.int (iI 0)), some (.int (iI 0))], [], _, 0, 0)
  refine s_ldA0 ok rfl ?_
  refine s_obj ok rfl rfl rfl ?_
  refine s_ldA0 ok rfl ?_
  refine s_ldI1 ok rfl ?_
  refine c_putI ok rfl rfl (by exact rfl) rfl (fun q => by cases q) ?_
  refine s_ldA0 ok rfl ?_
  refine s_ldI2 ok rfl ?_
  refine c_putI ok rfl rfl (by exact rfl) rfl (fun q => by cases q) ?_
  exact s_retV ok rfl ⟨rfl, rfl⟩
def tq12 : zS := (aR (aR (aR (aR (aR (aR (aR (aR tq11 27 0 36) 27 1 36) 27 2 36) 27 3 36) 27 4 36) 27 5 36) 27 6 36) 27 7 36)
set_option maxRecDepth 100000 in
theorem cc_X3_init_26 {E : zE} {d : Nat} {b : zS} : zCT E (d + 2) M_X3_init [.ref 26] (zOv b tp9) 10 54 (zUx (fun s => s = zOv b tq12)) := by
  have ok := ok_X3_init
  refine zCT_of pn_X3_init (Nat.le_of_ble_eq_true rfl) ?_
  show zGo _ _ _ _ _ _ 0 ([some (.ref 26), none, none], [], _, 10, 54)
  refine s_ldA0 ok rfl ?_
  refine s_obj ok rfl rfl rfl ?_
  refine s_ldA0 ok rfl ?_
  refine s_ci ok rfl ?_
  refine c_putI ok rfl rfl (by exact rfl) rfl (fun q => by cases q) ?_
  refine s_ldA0 ok rfl ?_
  refine s_ci ok rfl ?_
  refine c_newA (n := 27) (N := 8) (bc' := 9) (bs' := 46) ok rfl rfl rfl rfl rfl rfl rfl ?_
  refine c_putR ok rfl rfl (by exact rfl) rfl ?_
  refine s_ldA0 ok rfl ?_
  refine s_ci ok rfl ?_
  refine c_newA (n := 28) (N := 8) (bc' := 8) (bs' := 38) ok rfl rfl rfl rfl rfl rfl rfl ?_
  refine c_putR ok rfl rfl (by exact rfl) rfl ?_
  refine s_ldA0 ok rfl ?_
  refine s_ci ok rfl ?_
  refine c_newA (n := 29) (N := 8) (bc' := 7) (bs' := 30) ok rfl rfl rfl rfl rfl rfl rfl ?_
  refine c_putR ok rfl rfl (by exact rfl) rfl ?_
  refine s_ldA0 ok rfl ?_
  refine s_ci ok rfl ?_
  refine c_newA (n := 30) (N := 8) (bc' := 6) (bs' := 22) ok rfl rfl rfl rfl rfl rfl rfl ?_
  refine c_putR ok rfl rfl (by exact rfl) rfl ?_
  refine s_ldA0 ok rfl ?_
  refine s_ci ok rfl ?_
  refine c_putI ok rfl rfl (by exact rfl) rfl (fun q => by cases q) ?_
  refine s_ldA0 ok rfl ?_
  refine s_ci ok rfl ?_
  refine c_newA (n := 31) (N := 4) (bc' := 5) (bs' := 18) ok rfl rfl rfl rfl rfl rfl rfl ?_
  refine c_putR ok rfl rfl (by exact rfl) rfl ?_
  refine s_ldA0 ok rfl ?_
  refine s_ci ok rfl ?_
  refine c_newA (n := 32) (N := 4) (bc' := 4) (bs' := 14) ok rfl rfl rfl rfl rfl rfl rfl ?_
  refine c_putR ok rfl rfl (by exact rfl) rfl ?_
  refine s_ldA0 ok rfl ?_
  refine s_ci ok rfl ?_
  refine c_newA (n := 33) (N := 4) (bc' := 3) (bs' := 10) ok rfl rfl rfl rfl rfl rfl rfl ?_
  refine c_putR ok rfl rfl (by exact rfl) rfl ?_
  refine s_ldA0 ok rfl ?_
  refine s_ci ok rfl ?_
  refine c_newA (n := 34) (N := 4) (bc' := 2) (bs' := 6) ok rfl rfl rfl rfl rfl rfl rfl ?_
  refine s_dupA ok rfl ?_
  refine s_ci ok rfl ?_
  refine s_ci ok rfl ?_
  refine c_iast (j := 0) ok rfl rfl rfl (by exact rfl) rfl rfl (fun q => by cases q) ?_
  refine s_dupA ok rfl ?_
  refine s_ci ok rfl ?_
  refine s_ci ok rfl ?_
  refine c_iast (j := 1) ok rfl rfl rfl (by exact rfl) rfl rfl (fun q => by cases q) ?_
  refine s_dupA ok rfl ?_
  refine s_ci ok rfl ?_
  refine s_ci ok rfl ?_
  refine c_iast (j := 2) ok rfl rfl rfl (by exact rfl) rfl rfl (fun q => by cases q) ?_
  refine s_dupA ok rfl ?_
  refine s_ci ok rfl ?_
  refine s_ci ok rfl ?_
  refine c_iast (j := 3) ok rfl rfl rfl (by exact rfl) rfl rfl (fun q => by cases q) ?_
  refine c_putR ok rfl rfl (by exact rfl) rfl ?_
  refine s_ldA0 ok rfl ?_
  refine s_ci ok rfl ?_
  refine c_newA (n := 35) (N := 4) (bc' := 1) (bs' := 2) ok rfl rfl rfl rfl rfl rfl rfl ?_
  refine s_dupA ok rfl ?_
  refine s_ci ok rfl ?_
  refine s_ci ok rfl ?_
  refine c_iast (j := 0) ok rfl rfl rfl (by exact rfl) rfl rfl (fun q => by cases q) ?_
  refine s_dupA ok rfl ?_
  refine s_ci ok rfl ?_
  refine s_ci ok rfl ?_
  refine c_iast (j := 1) ok rfl rfl rfl (by exact rfl) rfl rfl (fun q => by cases q) ?_
  refine s_dupA ok rfl ?_
  refine s_ci ok rfl ?_
  refine s_ci ok rfl ?_
  refine c_iast (j := 2) ok rfl rfl rfl (by exact rfl) rfl rfl (fun q => by cases q) ?_
  refine s_dupA ok rfl ?_
  refine s_ci ok rfl ?_
  refine s_ci ok rfl ?_
  refine c_iast (j := 3) ok rfl rfl rfl (by exact rfl) rfl rfl (fun q => by cases q) ?_
  refine c_putR ok rfl rfl (by exact rfl) rfl ?_
  refine c_new (n := 36) (bc' := 0) (bs' := 0) ok rfl rfl rfl rfl rfl ?_
  refine s_dupA ok rfl ?_
  refine s_ci ok rfl ?_
  refine s_ci ok rfl ?_
  refine s_callO ok rfl rfl rfl rfl (cc_X10_init_36 (b := b)) (Nat.le_of_ble_eq_true rfl) (Nat.le_of_ble_eq_true rfl) (fun σ9 e9 => ?_)
  subst e9
  show zGo _ _ _ _ _ _ 129 (_, _, _, 0, 0)
  refine s_stA1 ok rfl rfl ?_
  refine s_ci ok rfl ?_
  refine s_stI2 ok rfl rfl ?_
  refine s_ldI2 ok rfl ?_
  refine s_ci ok rfl ?_
  refine s_c_ge ok rfl ⟨by decide, by decide⟩ ⟨by decide, by decide⟩ (fun c => absurd c (by decide)) (fun _ => ?_)
  refine s_ldA0 ok rfl ?_
  refine c_getR (w := 27) ok rfl (by exact rfl) rfl (by exact rfl) ?_
  refine s_ldI2 ok rfl ?_
  refine s_ldA1 ok rfl ?_
  refine c_aast (j := 0) ok rfl rfl rfl (by exact rfl) rfl rfl (by exact rfl) rfl ?_
  refine s_inc2 ok rfl rfl ?_
  refine s_goto ok rfl ?_
  refine s_ldI2 ok rfl ?_
  refine s_ci ok rfl ?_
  refine s_c_ge ok rfl ⟨by decide, by decide⟩ ⟨by decide, by decide⟩ (fun c => absurd c (by decide)) (fun _ => ?_)
  refine s_ldA0 ok rfl ?_
  refine c_getR (w := 27) ok rfl (by exact rfl) rfl (by exact rfl) ?_
  refine s_ldI2 ok rfl ?_
  refine s_ldA1 ok rfl ?_
  refine c_aast (j := 1) ok rfl rfl rfl (by exact rfl) rfl rfl (by exact rfl) rfl ?_
  refine s_inc2 ok rfl rfl ?_
  refine s_goto ok rfl ?_
  refine s_ldI2 ok rfl ?_
  refine s_ci ok rfl ?_
  refine s_c_ge ok rfl ⟨by decide, by decide⟩ ⟨by decide, by decide⟩ (fun c => absurd c (by decide)) (fun _ => ?_)
  refine s_ldA0 ok rfl ?_
  refine c_getR (w := 27) ok rfl (by exact rfl) rfl (by exact rfl) ?_
  refine s_ldI2 ok rfl ?_
  refine s_ldA1 ok rfl ?_
  refine c_aast (j := 2) ok rfl rfl rfl (by exact rfl) rfl rfl (by exact rfl) rfl ?_
  refine s_inc2 ok rfl rfl ?_
  refine s_goto ok rfl ?_
  refine s_ldI2 ok rfl ?_
  refine s_ci ok rfl ?_
  refine s_c_ge ok rfl ⟨by decide, by decide⟩ ⟨by decide, by decide⟩ (fun c => absurd c (by decide)) (fun _ => ?_)
  refine s_ldA0 ok rfl ?_
  refine c_getR (w := 27) ok rfl (by exact rfl) rfl (by exact rfl) ?_
  refine s_ldI2 ok rfl ?_
  refine s_ldA1 ok rfl ?_
  refine c_aast (j := 3) ok rfl rfl rfl (by exact rfl) rfl rfl (by exact rfl) rfl ?_
  refine s_inc2 ok rfl rfl ?_
  refine s_goto ok rfl ?_
  refine s_ldI2 ok rfl ?_
  refine s_ci ok rfl ?_
  refine s_c_ge ok rfl ⟨by decide, by decide⟩ ⟨by decide, by decide⟩ (fun c => absurd c (by decide)) (fun _ => ?_)
  refine s_ldA0 ok rfl ?_
  refine c_getR (w := 27) ok rfl (by exact rfl) rfl (by exact rfl) ?_
  refine s_ldI2 ok rfl ?_
  refine s_ldA1 ok rfl ?_
  refine c_aast (j := 4) ok rfl rfl rfl (by exact rfl) rfl rfl (by exact rfl) rfl ?_
  refine s_inc2 ok rfl rfl ?_
  refine s_goto ok rfl ?_
  refine s_ldI2 ok rfl ?_
  refine s_ci ok rfl ?_
  refine s_c_ge ok rfl ⟨by decide, by decide⟩ ⟨by decide, by decide⟩ (fun c => absurd c (by decide)) (fun _ => ?_)
  refine s_ldA0 ok rfl ?_
  refine c_getR (w := 27) ok rfl (by exact rfl) rfl (by exact rfl) ?_
  refine s_ldI2 ok rfl ?_
  refine s_ldA1 ok rfl ?_
  refine c_aast (j := 5) ok rfl rfl rfl (by exact rfl) rfl rfl (by exact rfl) rfl ?_
  refine s_inc2 ok rfl rfl ?_
  refine s_goto ok rfl ?_
  refine s_ldI2 ok rfl ?_
  refine s_ci ok rfl ?_
  refine s_c_ge ok rfl ⟨by decide, by decide⟩ ⟨by decide, by decide⟩ (fun c => absurd c (by decide)) (fun _ => ?_)
  refine s_ldA0 ok rfl ?_
  refine c_getR (w := 27) ok rfl (by exact rfl) rfl (by exact rfl) ?_
  refine s_ldI2 ok rfl ?_
  refine s_ldA1 ok rfl ?_
  refine c_aast (j := 6) ok rfl rfl rfl (by exact rfl) rfl rfl (by exact rfl) rfl ?_
  refine s_inc2 ok rfl rfl ?_
  refine s_goto ok rfl ?_
  refine s_ldI2 ok rfl ?_
  refine s_ci ok rfl ?_
  refine s_c_ge ok rfl ⟨by decide, by decide⟩ ⟨by decide, by decide⟩ (fun c => absurd c (by decide)) (fun _ => ?_)
  refine s_ldA0 ok rfl ?_
  refine c_getR (w := 27) ok rfl (by exact rfl) rfl (by exact rfl) ?_
  refine s_ldI2 ok rfl ?_
  refine s_ldA1 ok rfl ?_
  refine c_aast (j := 7) ok rfl rfl rfl (by exact rfl) rfl rfl (by exact rfl) rfl ?_
  refine s_inc2 ok rfl rfl ?_
  refine s_goto ok rfl ?_
  refine s_ldI2 ok rfl ?_
  refine s_ci ok rfl ?_
  refine s_c_ge ok rfl ⟨by decide, by decide⟩ ⟨by decide, by decide⟩ (fun _ => ?_) (fun c => absurd c (by decide))
  exact s_retV ok rfl ⟨rfl, rfl⟩
def tp13 : zS := (aN (aI (aR tq12 3 2 26) 3 3 (iI 0)) 37 9 19)
def tq14 : zS := (aI (aR (aN (aR (aN (aR (aN (aR (aN (aR (aN (aR (aN (aR (aN (aR (aN (aR (aN (aR (aN (aR (aN (aI (aR (aN (aR (aN (aR (aN (aR (aN (aR (aN (aR (aN tp13 38 16 8) 37 0 38) 39 16 8) 37 1 39) 40 16 8) 37 2 40) 41 16 8) 37 3 41) 42 16 8) 37 4 42) 43 16 8) 37 5 43) 37 6 (iI 0)) 44 16 8) 37 7 44) 45 16 8) 37 8 45) 46 16 8) 37 9 46) 47 16 8) 37 10 47) 48 16 8) 37 11 48) 49 16 60) 37 12 49) 50 16 60) 37 13 50) 51 16 12) 37 14 51) 52 16 12) 37 15 52) 53 16 12) 37 16 53) 54 16 12) 37 17 54) 37 18 (iI 0))
set_option maxRecDepth 100000 in
theorem cc_X9_init_37 {E : zE} {d : Nat} {b : zS} : zCT E (d + 1) M_X9_init [.ref 37] (zOv b tp13) 17 256 (zUx (fun s => s = zOv b tq14)) := by
  have ok := ok_X9_init
  refine zCT_of pn_X9_init (Nat.le_of_ble_eq_true rfl) ?_
  show zGo _ _ _ _ _ _ 0 ([some (.ref 37)], [], _, 17, 256)
  refine s_ldA0 ok rfl ?_
  refine s_obj ok rfl rfl rfl ?_
  refine s_ldA0 ok rfl ?_
  refine s_ci ok rfl ?_
  refine c_newA (n := 38) (N := 8) (bc' := 16) (bs' := 248) ok rfl rfl rfl rfl rfl rfl rfl ?_
  refine c_putR ok rfl rfl (by exact rfl) rfl ?_
  refine s_ldA0 ok rfl ?_
  refine s_ci ok rfl ?_
  refine c_newA (n := 39) (N := 8) (bc' := 15) (bs' := 240) ok rfl rfl rfl rfl rfl rfl rfl ?_
  refine c_putR ok rfl rfl (by exact rfl) rfl ?_
  refine s_ldA0 ok rfl ?_
  refine s_ci ok rfl ?_
  refine c_newA (n := 40) (N := 8) (bc' := 14) (bs' := 232) ok rfl rfl rfl rfl rfl rfl rfl ?_
  refine c_putR ok rfl rfl (by exact rfl) rfl ?_
  refine s_ldA0 ok rfl ?_
  refine s_ci ok rfl ?_
  refine c_newA (n := 41) (N := 8) (bc' := 13) (bs' := 224) ok rfl rfl rfl rfl rfl rfl rfl ?_
  refine c_putR ok rfl rfl (by exact rfl) rfl ?_
  refine s_ldA0 ok rfl ?_
  refine s_ci ok rfl ?_
  refine c_newA (n := 42) (N := 8) (bc' := 12) (bs' := 216) ok rfl rfl rfl rfl rfl rfl rfl ?_
  refine c_putR ok rfl rfl (by exact rfl) rfl ?_
  refine s_ldA0 ok rfl ?_
  refine s_ci ok rfl ?_
  refine c_newA (n := 43) (N := 8) (bc' := 11) (bs' := 208) ok rfl rfl rfl rfl rfl rfl rfl ?_
  refine c_putR ok rfl rfl (by exact rfl) rfl ?_
  refine s_ldA0 ok rfl ?_
  refine s_ci ok rfl ?_
  refine c_putI ok rfl rfl (by exact rfl) rfl (fun q => by cases q) ?_
  refine s_ldA0 ok rfl ?_
  refine s_ci ok rfl ?_
  refine c_newA (n := 44) (N := 8) (bc' := 10) (bs' := 200) ok rfl rfl rfl rfl rfl rfl rfl ?_
  refine c_putR ok rfl rfl (by exact rfl) rfl ?_
  refine s_ldA0 ok rfl ?_
  refine s_ci ok rfl ?_
  refine c_newA (n := 45) (N := 8) (bc' := 9) (bs' := 192) ok rfl rfl rfl rfl rfl rfl rfl ?_
  refine c_putR ok rfl rfl (by exact rfl) rfl ?_
  refine s_ldA0 ok rfl ?_
  refine s_ci ok rfl ?_
  refine c_newA (n := 46) (N := 8) (bc' := 8) (bs' := 184) ok rfl rfl rfl rfl rfl rfl rfl ?_
  refine c_putR ok rfl rfl (by exact rfl) rfl ?_
  refine s_ldA0 ok rfl ?_
  refine s_ci ok rfl ?_
  refine c_newA (n := 47) (N := 8) (bc' := 7) (bs' := 176) ok rfl rfl rfl rfl rfl rfl rfl ?_
  refine c_putR ok rfl rfl (by exact rfl) rfl ?_
  refine s_ldA0 ok rfl ?_
  refine s_ci ok rfl ?_
  refine c_newA (n := 48) (N := 8) (bc' := 6) (bs' := 168) ok rfl rfl rfl rfl rfl rfl rfl ?_
  refine c_putR ok rfl rfl (by exact rfl) rfl ?_
  refine s_ldA0 ok rfl ?_
  refine s_ci ok rfl ?_
  refine c_newA (n := 49) (N := 60) (bc' := 5) (bs' := 108) ok rfl rfl rfl rfl rfl rfl rfl ?_
  refine c_putR ok rfl rfl (by exact rfl) rfl ?_
  refine s_ldA0 ok rfl ?_
  refine s_ci ok rfl ?_
  refine c_newA (n := 50) (N := 60) (bc' := 4) (bs' := 48) ok rfl rfl rfl rfl rfl rfl rfl ?_
  refine c_putR ok rfl rfl (by exact rfl) rfl ?_
  refine s_ldA0 ok rfl ?_
  refine s_ci ok rfl ?_
  refine c_newA (n := 51) (N := 12) (bc' := 3) (bs' := 36) ok rfl rfl rfl rfl rfl rfl rfl ?_
  refine c_putR ok rfl rfl (by exact rfl) rfl ?_
  refine s_ldA0 ok rfl ?_
  refine s_ci ok rfl ?_
  refine c_newA (n := 52) (N := 12) (bc' := 2) (bs' := 24) ok rfl rfl rfl rfl rfl rfl rfl ?_
  refine c_putR ok rfl rfl (by exact rfl) rfl ?_
  refine s_ldA0 ok rfl ?_
  refine s_ci ok rfl ?_
  refine c_newA (n := 53) (N := 12) (bc' := 1) (bs' := 12) ok rfl rfl rfl rfl rfl rfl rfl ?_
  refine c_putR ok rfl rfl (by exact rfl) rfl ?_
  refine s_ldA0 ok rfl ?_
  refine s_ci ok rfl ?_
  refine c_newA (n := 54) (N := 12) (bc' := 0) (bs' := 0) ok rfl rfl rfl rfl rfl rfl rfl ?_
  refine c_putR ok rfl rfl (by exact rfl) rfl ?_
  refine s_ldA0 ok rfl ?_
  refine s_ci ok rfl ?_
  refine c_putI ok rfl rfl (by exact rfl) rfl (fun q => by cases q) ?_
  exact s_retV ok rfl ⟨rfl, rfl⟩
def tq15 : zS := (aR (aN (aR (aN (aR (aN (aR (aN (aR tq14 3 4 37) 55 19 8) 3 5 55) 56 18 8) 3 6 56) 57 16 9) 3 7 57) 58 16 9) 3 8 58)
set_option maxRecDepth 100000 in
theorem cc_X11_init {E : zE} {d : Nat} {b : zS} : zCT E (d + 3) M_X11_init [.ref 3] (zOv b tL0) 55 504 (zUx (fun s => s = zOv b tq15)) := by
  have ok := ok_X11_init
  refine zCT_of pn_X11_init (Nat.le_of_ble_eq_true rfl) ?_
  show zGo _ _ _ _ _ _ 0 ([some (.ref 3)], [], _, 55, 504)
  refine s_ldA0 ok rfl ?_
  refine s_obj ok rfl rfl rfl ?_
  refine s_ldA0 ok rfl ?_
  refine c_new (n := 4) (bc' := 54) (bs' := 493) ok rfl rfl rfl rfl rfl ?_
  refine s_dupA ok rfl ?_
  refine s_callO ok rfl rfl rfl rfl (cc_X3_init_4 (b := b)) (Nat.le_of_ble_eq_true rfl) (Nat.le_of_ble_eq_true rfl) (fun σ9 e9 => ?_)
  subst e9
  show zGo _ _ _ _ _ _ 12 (_, _, _, 44, 439)
  refine c_putR ok rfl rfl (by exact rfl) rfl ?_
  refine s_ldA0 ok rfl ?_
  refine c_new (n := 15) (bc' := 43) (bs' := 428) ok rfl rfl rfl rfl rfl ?_
  refine s_dupA ok rfl ?_
  refine s_callO ok rfl rfl rfl rfl (cc_X3_init_15 (b := b)) (Nat.le_of_ble_eq_true rfl) (Nat.le_of_ble_eq_true rfl) (fun σ9 e9 => ?_)
  subst e9
  show zGo _ _ _ _ _ _ 23 (_, _, _, 33, 374)
  refine c_putR ok rfl rfl (by exact rfl) rfl ?_
  refine s_ldA0 ok rfl ?_
  refine c_new (n := 26) (bc' := 32) (bs' := 363) ok rfl rfl rfl rfl rfl ?_
  refine s_dupA ok rfl ?_
  refine s_callO ok rfl rfl rfl rfl (cc_X3_init_26 (b := b)) (Nat.le_of_ble_eq_true rfl) (Nat.le_of_ble_eq_true rfl) (fun σ9 e9 => ?_)
  subst e9
  show zGo _ _ _ _ _ _ 34 (_, _, _, 22, 309)
  refine c_putR ok rfl rfl (by exact rfl) rfl ?_
  refine s_ldA0 ok rfl ?_
  refine s_ci ok rfl ?_
  refine c_putI ok rfl rfl (by exact rfl) rfl (fun _ => Or.inl iI_0) ?_
  refine s_ldA0 ok rfl ?_
  refine c_new (n := 37) (bc' := 21) (bs' := 290) ok rfl rfl rfl rfl rfl ?_
  refine s_dupA ok rfl ?_
  refine s_callO ok rfl rfl rfl rfl (cc_X9_init_37 (b := b)) (Nat.le_of_ble_eq_true rfl) (Nat.le_of_ble_eq_true rfl) (fun σ9 e9 => ?_)
  subst e9
  show zGo _ _ _ _ _ _ 50 (_, _, _, 4, 34)
  refine c_putR ok rfl rfl (by exact rfl) rfl ?_
  refine s_ldA0 ok rfl ?_
  refine s_ci ok rfl ?_
  refine c_newA (n := 55) (N := 8) (bc' := 3) (bs' := 26) ok rfl rfl rfl rfl rfl rfl rfl ?_
  refine c_putR ok rfl rfl (by exact rfl) rfl ?_
  refine s_ldA0 ok rfl ?_
  refine s_ci ok rfl ?_
  refine c_newA (n := 56) (N := 8) (bc' := 2) (bs' := 18) ok rfl rfl rfl rfl rfl rfl rfl ?_
  refine c_putR ok rfl rfl (by exact rfl) rfl ?_
  refine s_ldA0 ok rfl ?_
  refine s_ci ok rfl ?_
  refine c_newA (n := 57) (N := 9) (bc' := 1) (bs' := 9) ok rfl rfl rfl rfl rfl rfl rfl ?_
  refine c_putR ok rfl rfl (by exact rfl) rfl ?_
  refine s_ldA0 ok rfl ?_
  refine s_ci ok rfl ?_
  refine c_newA (n := 58) (N := 9) (bc' := 0) (bs' := 0) ok rfl rfl rfl rfl rfl rfl rfl ?_
  refine c_putR ok rfl rfl (by exact rfl) rfl ?_
  exact s_retV ok rfl ⟨rfl, rfl⟩
def tL1 : zS := aN tq15 59 12 37
def tq16 : zS := (aI (aI (aI (aI (aI (aI (aI (aI (aR (aN (aR (aN (aR (aN (aR (aN (aR (aN (aR (aN (aR (aN (aR (aN (aR (aN (aR (aN (aI (aI (aR (aN (aR (aN (aR (aN (aR (aN (aR (aN (aR (aN (aR (aN (aR (aN (aR (aN (aR (aN (aR (aN (aR (aN (aR (aN (aR (aN (aR (aN (aR (aN tL1 60 16 59) 59 0 60) 61 16 59) 59 1 61) 62 16 59) 59 2 62) 63 16 12) 59 4 63) 64 16 12) 59 5 64) 65 16 12) 59 6 65) 66 16 12) 59 7 66) 67 16 60) 59 8 67) 68 16 60) 59 9 68) 69 16 8) 59 10 69) 70 16 8) 59 11 70) 71 16 8) 59 12 71) 72 16 8) 59 13 72) 73 16 8) 59 14 73) 74 16 8) 59 15 74) 75 16 8) 59 16 75) 59 17 (iI (-4))) 59 18 (iI 3)) 76 16 5) 59 23 76) 77 16 9) 59 26 77) 78 16 9) 59 27 78) 79 16 8) 59 29 79) 80 16 8) 59 30 80) 81 16 8) 59 31 81) 82 16 8) 59 32 82) 83 16 8) 59 33 83) 84 16 8) 59 34 84) 85 16 800) 59 35 85) 60 2 (iI 10)) 60 3 (iI 8)) 60 4 (iI 5)) 60 5 (iI 2)) 60 7 (iI 10)) 60 8 (iI 10)) 60 9 (iI 10)) 60 10 (iI 10))
set_option maxRecDepth 100000 in
theorem cc_X12_init {E : zE} {d : Nat} {b : zS} : zCT E (d + 1) M_X12_init [.ref 59] (zOv b tL1) 26 1272 (zUx (fun s => s = zOv b tq16)) := by
  have ok := ok_X12_init
  refine zCT_of pn_X12_init (Nat.le_of_ble_eq_true rfl) ?_
  show zGo _ _ _ _ _ _ 0 ([some (.ref 59), none], [], _, 26, 1272)
  refine s_ldA0 ok rfl ?_
  refine s_obj ok rfl rfl rfl ?_
  refine s_ldA0 ok rfl ?_
  refine s_ci ok rfl ?_
  refine c_newA (n := 60) (N := 59) (bc' := 25) (bs' := 1213) ok rfl rfl rfl rfl rfl rfl rfl ?_
  refine c_putR ok rfl rfl (by exact rfl) rfl ?_
  refine s_ldA0 ok rfl ?_
  refine s_ci ok rfl ?_
  refine c_newA (n := 61) (N := 59) (bc' := 24) (bs' := 1154) ok rfl rfl rfl rfl rfl rfl rfl ?_
  refine c_putR ok rfl rfl (by exact rfl) rfl ?_
  refine s_ldA0 ok rfl ?_
  refine s_ci ok rfl ?_
  refine c_newA (n := 62) (N := 59) (bc' := 23) (bs' := 1095) ok rfl rfl rfl rfl rfl rfl rfl ?_
  refine c_putR ok rfl rfl (by exact rfl) rfl ?_
  refine s_ldA0 ok rfl ?_
  refine s_ci ok rfl ?_
  refine c_newA (n := 63) (N := 12) (bc' := 22) (bs' := 1083) ok rfl rfl rfl rfl rfl rfl rfl ?_
  refine c_putR ok rfl rfl (by exact rfl) rfl ?_
  refine s_ldA0 ok rfl ?_
  refine s_ci ok rfl ?_
  refine c_newA (n := 64) (N := 12) (bc' := 21) (bs' := 1071) ok rfl rfl rfl rfl rfl rfl rfl ?_
  refine c_putR ok rfl rfl (by exact rfl) rfl ?_
  refine s_ldA0 ok rfl ?_
  refine s_ci ok rfl ?_
  refine c_newA (n := 65) (N := 12) (bc' := 20) (bs' := 1059) ok rfl rfl rfl rfl rfl rfl rfl ?_
  refine c_putR ok rfl rfl (by exact rfl) rfl ?_
  refine s_ldA0 ok rfl ?_
  refine s_ci ok rfl ?_
  refine c_newA (n := 66) (N := 12) (bc' := 19) (bs' := 1047) ok rfl rfl rfl rfl rfl rfl rfl ?_
  refine c_putR ok rfl rfl (by exact rfl) rfl ?_
  refine s_ldA0 ok rfl ?_
  refine s_ci ok rfl ?_
  refine c_newA (n := 67) (N := 60) (bc' := 18) (bs' := 987) ok rfl rfl rfl rfl rfl rfl rfl ?_
  refine c_putR ok rfl rfl (by exact rfl) rfl ?_
  refine s_ldA0 ok rfl ?_
  refine s_ci ok rfl ?_
  refine c_newA (n := 68) (N := 60) (bc' := 17) (bs' := 927) ok rfl rfl rfl rfl rfl rfl rfl ?_
  refine c_putR ok rfl rfl (by exact rfl) rfl ?_
  refine s_ldA0 ok rfl ?_
  refine s_ci ok rfl ?_
  refine c_newA (n := 69) (N := 8) (bc' := 16) (bs' := 919) ok rfl rfl rfl rfl rfl rfl rfl ?_
  refine c_putR ok rfl rfl (by exact rfl) rfl ?_
  refine s_ldA0 ok rfl ?_
  refine s_ci ok rfl ?_
  refine c_newA (n := 70) (N := 8) (bc' := 15) (bs' := 911) ok rfl rfl rfl rfl rfl rfl rfl ?_
  refine c_putR ok rfl rfl (by exact rfl) rfl ?_
  refine s_ldA0 ok rfl ?_
  refine s_ci ok rfl ?_
  refine c_newA (n := 71) (N := 8) (bc' := 14) (bs' := 903) ok rfl rfl rfl rfl rfl rfl rfl ?_
  refine c_putR ok rfl rfl (by exact rfl) rfl ?_
  refine s_ldA0 ok rfl ?_
  refine s_ci ok rfl ?_
  refine c_newA (n := 72) (N := 8) (bc' := 13) (bs' := 895) ok rfl rfl rfl rfl rfl rfl rfl ?_
  refine c_putR ok rfl rfl (by exact rfl) rfl ?_
  refine s_ldA0 ok rfl ?_
  refine s_ci ok rfl ?_
  refine c_newA (n := 73) (N := 8) (bc' := 12) (bs' := 887) ok rfl rfl rfl rfl rfl rfl rfl ?_
  refine c_putR ok rfl rfl (by exact rfl) rfl ?_
  refine s_ldA0 ok rfl ?_
  refine s_ci ok rfl ?_
  refine c_newA (n := 74) (N := 8) (bc' := 11) (bs' := 879) ok rfl rfl rfl rfl rfl rfl rfl ?_
  refine c_putR ok rfl rfl (by exact rfl) rfl ?_
  refine s_ldA0 ok rfl ?_
  refine s_ci ok rfl ?_
  refine c_newA (n := 75) (N := 8) (bc' := 10) (bs' := 871) ok rfl rfl rfl rfl rfl rfl rfl ?_
  refine c_putR ok rfl rfl (by exact rfl) rfl ?_
  refine s_ldA0 ok rfl ?_
  refine s_ci ok rfl ?_
  refine c_putI ok rfl rfl (by exact rfl) rfl (fun q => by cases q) ?_
  refine s_ldA0 ok rfl ?_
  refine s_ci ok rfl ?_
  refine c_putI ok rfl rfl (by exact rfl) rfl (fun q => by cases q) ?_
  refine s_ldA0 ok rfl ?_
  refine s_ci ok rfl ?_
  refine c_newA (n := 76) (N := 5) (bc' := 9) (bs' := 866) ok rfl rfl rfl rfl rfl rfl rfl ?_
  refine c_putR ok rfl rfl (by exact rfl) rfl ?_
  refine s_ldA0 ok rfl ?_
  refine s_ci ok rfl ?_
  refine c_newA (n := 77) (N := 9) (bc' := 8) (bs' := 857) ok rfl rfl rfl rfl rfl rfl rfl ?_
  refine c_putR ok rfl rfl (by exact rfl) rfl ?_
  refine s_ldA0 ok rfl ?_
  refine s_ci ok rfl ?_
  refine c_newA (n := 78) (N := 9) (bc' := 7) (bs' := 848) ok rfl rfl rfl rfl rfl rfl rfl ?_
  refine c_putR ok rfl rfl (by exact rfl) rfl ?_
  refine s_ldA0 ok rfl ?_
  refine s_ci ok rfl ?_
  refine c_newA (n := 79) (N := 8) (bc' := 6) (bs' := 840) ok rfl rfl rfl rfl rfl rfl rfl ?_
  refine c_putR ok rfl rfl (by exact rfl) rfl ?_
  refine s_ldA0 ok rfl ?_
  refine s_ci ok rfl ?_
  refine c_newA (n := 80) (N := 8) (bc' := 5) (bs' := 832) ok rfl rfl rfl rfl rfl rfl rfl ?_
  refine c_putR ok rfl rfl (by exact rfl) rfl ?_
  refine s_ldA0 ok rfl ?_
  refine s_ci ok rfl ?_
  refine c_newA (n := 81) (N := 8) (bc' := 4) (bs' := 824) ok rfl rfl rfl rfl rfl rfl rfl ?_
  refine c_putR ok rfl rfl (by exact rfl) rfl ?_
  refine s_ldA0 ok rfl ?_
  refine s_ci ok rfl ?_
  refine c_newA (n := 82) (N := 8) (bc' := 3) (bs' := 816) ok rfl rfl rfl rfl rfl rfl rfl ?_
  refine c_putR ok rfl rfl (by exact rfl) rfl ?_
  refine s_ldA0 ok rfl ?_
  refine s_ci ok rfl ?_
  refine c_newA (n := 83) (N := 8) (bc' := 2) (bs' := 808) ok rfl rfl rfl rfl rfl rfl rfl ?_
  refine c_putR ok rfl rfl (by exact rfl) rfl ?_
  refine s_ldA0 ok rfl ?_
  refine s_ci ok rfl ?_
  refine c_newA (n := 84) (N := 8) (bc' := 1) (bs' := 800) ok rfl rfl rfl rfl rfl rfl rfl ?_
  refine c_putR ok rfl rfl (by exact rfl) rfl ?_
  refine s_ldA0 ok rfl ?_
  refine s_ci ok rfl ?_
  refine c_newA (n := 85) (N := 800) (bc' := 0) (bs' := 0) ok rfl rfl rfl rfl rfl rfl rfl ?_
  refine c_putR ok rfl rfl (by exact rfl) rfl ?_
  refine s_ldA0 ok rfl ?_
  refine c_getR (w := 60) ok rfl (by exact rfl) rfl (by exact rfl) ?_
  refine s_ci ok rfl ?_
  refine s_ci ok rfl ?_
  refine c_iast (j := 2) ok rfl rfl rfl (by exact rfl) rfl rfl (fun q => by cases q) ?_
  refine s_ldA0 ok rfl ?_
  refine c_getR (w := 60) ok rfl (by exact rfl) rfl (by exact rfl) ?_
  refine s_ci ok rfl ?_
  refine s_ci ok rfl ?_
  refine c_iast (j := 3) ok rfl rfl rfl (by exact rfl) rfl rfl (fun q => by cases q) ?_
  refine s_ldA0 ok rfl ?_
  refine c_getR (w := 60) ok rfl (by exact rfl) rfl (by exact rfl) ?_
  refine s_ci ok rfl ?_
  refine s_ci ok rfl ?_
  refine c_iast (j := 4) ok rfl rfl rfl (by exact rfl) rfl rfl (fun q => by cases q) ?_
  refine s_ldA0 ok rfl ?_
  refine c_getR (w := 60) ok rfl (by exact rfl) rfl (by exact rfl) ?_
  refine s_ci ok rfl ?_
  refine s_ci ok rfl ?_
  refine c_iast (j := 5) ok rfl rfl rfl (by exact rfl) rfl rfl (fun q => by cases q) ?_
  refine s_ci ok rfl ?_
  refine s_stI1 ok rfl rfl ?_
  refine s_ldI1 ok rfl ?_
  refine s_ci ok rfl ?_
  refine s_c_ge ok rfl ⟨by decide, by decide⟩ ⟨by decide, by decide⟩ (fun c => absurd c (by decide)) (fun _ => ?_)
  refine s_ldA0 ok rfl ?_
  refine c_getR (w := 60) ok rfl (by exact rfl) rfl (by exact rfl) ?_
  refine s_ci ok rfl ?_
  refine s_ldI1 ok rfl ?_
  refine s_add ok rfl ?_
  refine s_ci ok rfl ?_
  refine c_iast (j := 7) ok rfl rfl rfl (by exact rfl) rfl rfl (fun q => by cases q) ?_
  refine s_inc1 ok rfl rfl ?_
  refine s_goto ok rfl ?_
  refine s_ldI1 ok rfl ?_
  refine s_ci ok rfl ?_
  refine s_c_ge ok rfl ⟨by decide, by decide⟩ ⟨by decide, by decide⟩ (fun c => absurd c (by decide)) (fun _ => ?_)
  refine s_ldA0 ok rfl ?_
  refine c_getR (w := 60) ok rfl (by exact rfl) rfl (by exact rfl) ?_
  refine s_ci ok rfl ?_
  refine s_ldI1 ok rfl ?_
  refine s_add ok rfl ?_
  refine s_ci ok rfl ?_
  refine c_iast (j := 8) ok rfl rfl rfl (by exact rfl) rfl rfl (fun q => by cases q) ?_
  refine s_inc1 ok rfl rfl ?_
  refine s_goto ok rfl ?_
  refine s_ldI1 ok rfl ?_
  refine s_ci ok rfl ?_
  refine s_c_ge ok rfl ⟨by decide, by decide⟩ ⟨by decide, by decide⟩ (fun c => absurd c (by decide)) (fun _ => ?_)
  refine s_ldA0 ok rfl ?_
  refine c_getR (w := 60) ok rfl (by exact rfl) rfl (by exact rfl) ?_
  refine s_ci ok rfl ?_
  refine s_ldI1 ok rfl ?_
  refine s_add ok rfl ?_
  refine s_ci ok rfl ?_
  refine c_iast (j := 9) ok rfl rfl rfl (by exact rfl) rfl rfl (fun q => by cases q) ?_
  refine s_inc1 ok rfl rfl ?_
  refine s_goto ok rfl ?_
  refine s_ldI1 ok rfl ?_
  refine s_ci ok rfl ?_
  refine s_c_ge ok rfl ⟨by decide, by decide⟩ ⟨by decide, by decide⟩ (fun c => absurd c (by decide)) (fun _ => ?_)
  refine s_ldA0 ok rfl ?_
  refine c_getR (w := 60) ok rfl (by exact rfl) rfl (by exact rfl) ?_
  refine s_ci ok rfl ?_
  refine s_ldI1 ok rfl ?_
  refine s_add ok rfl ?_
  refine s_ci ok rfl ?_
  refine c_iast (j := 10) ok rfl rfl rfl (by exact rfl) rfl rfl (fun q => by cases q) ?_
  refine s_inc1 ok rfl rfl ?_
  refine s_goto ok rfl ?_
  refine s_ldI1 ok rfl ?_
  refine s_ci ok rfl ?_
  refine s_c_ge ok rfl ⟨by decide, by decide⟩ ⟨by decide, by decide⟩ (fun _ => ?_) (fun c => absurd c (by decide))
  exact s_retV ok rfl ⟨rfl, rfl⟩
def tL2 : zS := aN tq16 86 20 1
