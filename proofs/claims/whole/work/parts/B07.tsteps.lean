/-! steps of the second judgement -/
def zOKr (M : zM) (tb : List ExceptionTableEntry) (R : Room) (d : Nat) (P : Nat → zOp) : Prop := zOKy M tb P ∧ d ≤ R.frames ∧ 34 * d ≤ R.locals
section ZT
variable {E : zE} {d : Nat} {M : zM} {tb : List ExceptionTableEntry} {R : Room} {Z : zEd} {P : Nat → zOp} {pc nx tg bc bs : Nat} {ls : List (Option Value)} {st : List Value} {σ : zS} {k : Nat → Nat × Nat} {h : Nat → Int → Int} {r : Nat → Int → Option Nat} {l : Nat → Nat → Int64} {n : Nat}
theorem zstepy (ok : zOKr M tb R d P) {o : zOp} {c : zC} (hP : P pc = o) (hk : o E d (fun _ _ => False) c (zGy E M tb R Z)) : zGy E M tb R Z pc c := ok.1 pc E d Z R c _ ok.2.1 ok.2.2 (fun _ _ q => q) (hP ▸ hk)
theorem ty_ldI0 (ok : zOKr M tb R d P) {x : Int32} (hP : P pc = oLdI 0 nx) (hk : zGy E M tb R Z nx (some (.int x) :: ls, .int x :: st, σ, bc, bs)) : zGy E M tb R Z pc (some (.int x) :: ls, st, σ, bc, bs) := zstepy ok hP hk
theorem ty_ldA0 (ok : zOKr M tb R d P) {x : Nat} (hP : P pc = oLdA 0 nx) (hk : zGy E M tb R Z nx (some (.ref x) :: ls, .ref x :: st, σ, bc, bs)) : zGy E M tb R Z pc (some (.ref x) :: ls, st, σ, bc, bs) := zstepy ok hP hk
theorem ty_ldN0 (ok : zOKr M tb R d P) (hP : P pc = oLdA 0 nx) (hk : zGy E M tb R Z nx (some (.null) :: ls, .null :: st, σ, bc, bs)) : zGy E M tb R Z pc (some (.null) :: ls, st, σ, bc, bs) := zstepy ok hP hk
theorem ty_ldL0 (ok : zOKr M tb R d P) {x : Int64} (hP : P pc = oLdL 0 nx) (hk : zGy E M tb R Z nx (some (.long x) :: ls, .long x :: st, σ, bc, bs)) : zGy E M tb R Z pc (some (.long x) :: ls, st, σ, bc, bs) := zstepy ok hP hk
theorem ty_stI0 (ok : zOKr M tb R d P) {b : Option Value} {x : Int32} (hP : P pc = oStI 0 nx) (hk : zGy E M tb R Z nx (some (.int x) :: ls, st, σ, bc, bs)) : zGy E M tb R Z pc (b :: ls, .int x :: st, σ, bc, bs) := zstepy ok hP hk
theorem ty_stA0 (ok : zOKr M tb R d P) {b : Option Value} {x : Nat} (hP : P pc = oStA 0 nx) (hk : zGy E M tb R Z nx (some (.ref x) :: ls, st, σ, bc, bs)) : zGy E M tb R Z pc (b :: ls, .ref x :: st, σ, bc, bs) := zstepy ok hP hk
theorem ty_stN0 (ok : zOKr M tb R d P) {b : Option Value} (hP : P pc = oStA 0 nx) (hk : zGy E M tb R Z nx (some (.null) :: ls, st, σ, bc, bs)) : zGy E M tb R Z pc (b :: ls, .null :: st, σ, bc, bs) := zstepy ok hP hk
theorem ty_inc0 (ok : zOKr M tb R d P) {a m : Int} (hP : P pc = oInc 0 (iI m) nx) (hk : zGy E M tb R Z nx (some (.int (iI (a + m))) :: ls, st, σ, bc, bs)) : zGy E M tb R Z pc (some (.int (iI a)) :: ls, st, σ, bc, bs) := by
  refine zstepy ok hP ?_
  show zGy E M tb R Z nx (some (.int (iI a + iI m)) :: ls, st, σ, bc, bs)
  rw [iI_add]
  exact hk
theorem ty_ldI1 (ok : zOKr M tb R d P) {a0 : Option Value} {x : Int32} (hP : P pc = oLdI 1 nx) (hk : zGy E M tb R Z nx (a0 :: some (.int x) :: ls, .int x :: st, σ, bc, bs)) : zGy E M tb R Z pc (a0 :: some (.int x) :: ls, st, σ, bc, bs) := zstepy ok hP hk
theorem ty_ldA1 (ok : zOKr M tb R d P) {a0 : Option Value} {x : Nat} (hP : P pc = oLdA 1 nx) (hk : zGy E M tb R Z nx (a0 :: some (.ref x) :: ls, .ref x :: st, σ, bc, bs)) : zGy E M tb R Z pc (a0 :: some (.ref x) :: ls, st, σ, bc, bs) := zstepy ok hP hk
theorem ty_ldN1 (ok : zOKr M tb R d P) {a0 : Option Value} (hP : P pc = oLdA 1 nx) (hk : zGy E M tb R Z nx (a0 :: some (.null) :: ls, .null :: st, σ, bc, bs)) : zGy E M tb R Z pc (a0 :: some (.null) :: ls, st, σ, bc, bs) := zstepy ok hP hk
theorem ty_stI1 (ok : zOKr M tb R d P) {a0 : Option Value} {b : Option Value} {x : Int32} (hP : P pc = oStI 1 nx) (hz : znl a0 = true) (hk : zGy E M tb R Z nx (a0 :: some (.int x) :: ls, st, σ, bc, bs)) : zGy E M tb R Z pc (a0 :: b :: ls, .int x :: st, σ, bc, bs) := by
  refine zstepy ok hP ?_
  show zGy E M tb R Z nx (zset (zclr (a0 :: b :: ls) 1) 1 (some (.int x)), st, σ, bc, bs)
  rw [zclr_id (ls := a0 :: b :: ls) (k := 0) hz]
  exact hk
theorem ty_stA1 (ok : zOKr M tb R d P) {a0 : Option Value} {b : Option Value} {x : Nat} (hP : P pc = oStA 1 nx) (hz : znl a0 = true) (hk : zGy E M tb R Z nx (a0 :: some (.ref x) :: ls, st, σ, bc, bs)) : zGy E M tb R Z pc (a0 :: b :: ls, .ref x :: st, σ, bc, bs) := by
  refine zstepy ok hP ?_
  show zGy E M tb R Z nx (zset (zclr (a0 :: b :: ls) 1) 1 (some (.ref x)), st, σ, bc, bs)
  rw [zclr_id (ls := a0 :: b :: ls) (k := 0) hz]
  exact hk
theorem ty_stN1 (ok : zOKr M tb R d P) {a0 : Option Value} {b : Option Value} (hP : P pc = oStA 1 nx) (hz : znl a0 = true) (hk : zGy E M tb R Z nx (a0 :: some (.null) :: ls, st, σ, bc, bs)) : zGy E M tb R Z pc (a0 :: b :: ls, .null :: st, σ, bc, bs) := by
  refine zstepy ok hP ?_
  show zGy E M tb R Z nx (zset (zclr (a0 :: b :: ls) 1) 1 (some (.null)), st, σ, bc, bs)
  rw [zclr_id (ls := a0 :: b :: ls) (k := 0) hz]
  exact hk
theorem ty_inc1 (ok : zOKr M tb R d P) {a0 : Option Value} {a m : Int} (hP : P pc = oInc 1 (iI m) nx) (hz : znl a0 = true) (hk : zGy E M tb R Z nx (a0 :: some (.int (iI (a + m))) :: ls, st, σ, bc, bs)) : zGy E M tb R Z pc (a0 :: some (.int (iI a)) :: ls, st, σ, bc, bs) := by
  refine zstepy ok hP ?_
  show zGy E M tb R Z nx (zset (zclr (a0 :: some (.int (iI a)) :: ls) 1) 1 (some (.int (iI a + iI m))), st, σ, bc, bs)
  rw [zclr_id (ls := a0 :: some (.int (iI a)) :: ls) (k := 0) hz, iI_add]
  exact hk
theorem ty_ldI2 (ok : zOKr M tb R d P) {a0 a1 : Option Value} {x : Int32} (hP : P pc = oLdI 2 nx) (hk : zGy E M tb R Z nx (a0 :: a1 :: some (.int x) :: ls, .int x :: st, σ, bc, bs)) : zGy E M tb R Z pc (a0 :: a1 :: some (.int x) :: ls, st, σ, bc, bs) := zstepy ok hP hk
theorem ty_ldA2 (ok : zOKr M tb R d P) {a0 a1 : Option Value} {x : Nat} (hP : P pc = oLdA 2 nx) (hk : zGy E M tb R Z nx (a0 :: a1 :: some (.ref x) :: ls, .ref x :: st, σ, bc, bs)) : zGy E M tb R Z pc (a0 :: a1 :: some (.ref x) :: ls, st, σ, bc, bs) := zstepy ok hP hk
theorem ty_ldN2 (ok : zOKr M tb R d P) {a0 a1 : Option Value} (hP : P pc = oLdA 2 nx) (hk : zGy E M tb R Z nx (a0 :: a1 :: some (.null) :: ls, .null :: st, σ, bc, bs)) : zGy E M tb R Z pc (a0 :: a1 :: some (.null) :: ls, st, σ, bc, bs) := zstepy ok hP hk
theorem ty_ldL2 (ok : zOKr M tb R d P) {a0 a1 : Option Value} {x : Int64} (hP : P pc = oLdL 2 nx) (hk : zGy E M tb R Z nx (a0 :: a1 :: some (.long x) :: ls, .long x :: st, σ, bc, bs)) : zGy E M tb R Z pc (a0 :: a1 :: some (.long x) :: ls, st, σ, bc, bs) := zstepy ok hP hk
theorem ty_stI2 (ok : zOKr M tb R d P) {a0 a1 : Option Value} {b : Option Value} {x : Int32} (hP : P pc = oStI 2 nx) (hz : znl a1 = true) (hk : zGy E M tb R Z nx (a0 :: a1 :: some (.int x) :: ls, st, σ, bc, bs)) : zGy E M tb R Z pc (a0 :: a1 :: b :: ls, .int x :: st, σ, bc, bs) := by
  refine zstepy ok hP ?_
  show zGy E M tb R Z nx (zset (zclr (a0 :: a1 :: b :: ls) 2) 2 (some (.int x)), st, σ, bc, bs)
  rw [zclr_id (ls := a0 :: a1 :: b :: ls) (k := 1) hz]
  exact hk
theorem ty_stA2 (ok : zOKr M tb R d P) {a0 a1 : Option Value} {b : Option Value} {x : Nat} (hP : P pc = oStA 2 nx) (hz : znl a1 = true) (hk : zGy E M tb R Z nx (a0 :: a1 :: some (.ref x) :: ls, st, σ, bc, bs)) : zGy E M tb R Z pc (a0 :: a1 :: b :: ls, .ref x :: st, σ, bc, bs) := by
  refine zstepy ok hP ?_
  show zGy E M tb R Z nx (zset (zclr (a0 :: a1 :: b :: ls) 2) 2 (some (.ref x)), st, σ, bc, bs)
  rw [zclr_id (ls := a0 :: a1 :: b :: ls) (k := 1) hz]
  exact hk
theorem ty_stN2 (ok : zOKr M tb R d P) {a0 a1 : Option Value} {b : Option Value} (hP : P pc = oStA 2 nx) (hz : znl a1 = true) (hk : zGy E M tb R Z nx (a0 :: a1 :: some (.null) :: ls, st, σ, bc, bs)) : zGy E M tb R Z pc (a0 :: a1 :: b :: ls, .null :: st, σ, bc, bs) := by
  refine zstepy ok hP ?_
  show zGy E M tb R Z nx (zset (zclr (a0 :: a1 :: b :: ls) 2) 2 (some (.null)), st, σ, bc, bs)
  rw [zclr_id (ls := a0 :: a1 :: b :: ls) (k := 1) hz]
  exact hk
theorem ty_inc2 (ok : zOKr M tb R d P) {a0 a1 : Option Value} {a m : Int} (hP : P pc = oInc 2 (iI m) nx) (hz : znl a1 = true) (hk : zGy E M tb R Z nx (a0 :: a1 :: some (.int (iI (a + m))) :: ls, st, σ, bc, bs)) : zGy E M tb R Z pc (a0 :: a1 :: some (.int (iI a)) :: ls, st, σ, bc, bs) := by
  refine zstepy ok hP ?_
  show zGy E M tb R Z nx (zset (zclr (a0 :: a1 :: some (.int (iI a)) :: ls) 2) 2 (some (.int (iI a + iI m))), st, σ, bc, bs)
  rw [zclr_id (ls := a0 :: a1 :: some (.int (iI a)) :: ls) (k := 1) hz, iI_add]
  exact hk
theorem ty_ldI3 (ok : zOKr M tb R d P) {a0 a1 a2 : Option Value} {x : Int32} (hP : P pc = oLdI 3 nx) (hk : zGy E M tb R Z nx (a0 :: a1 :: a2 :: some (.int x) :: ls, .int x :: st, σ, bc, bs)) : zGy E M tb R Z pc (a0 :: a1 :: a2 :: some (.int x) :: ls, st, σ, bc, bs) := zstepy ok hP hk
theorem ty_ldA3 (ok : zOKr M tb R d P) {a0 a1 a2 : Option Value} {x : Nat} (hP : P pc = oLdA 3 nx) (hk : zGy E M tb R Z nx (a0 :: a1 :: a2 :: some (.ref x) :: ls, .ref x :: st, σ, bc, bs)) : zGy E M tb R Z pc (a0 :: a1 :: a2 :: some (.ref x) :: ls, st, σ, bc, bs) := zstepy ok hP hk
theorem ty_ldN3 (ok : zOKr M tb R d P) {a0 a1 a2 : Option Value} (hP : P pc = oLdA 3 nx) (hk : zGy E M tb R Z nx (a0 :: a1 :: a2 :: some (.null) :: ls, .null :: st, σ, bc, bs)) : zGy E M tb R Z pc (a0 :: a1 :: a2 :: some (.null) :: ls, st, σ, bc, bs) := zstepy ok hP hk
theorem ty_ldL3 (ok : zOKr M tb R d P) {a0 a1 a2 : Option Value} {x : Int64} (hP : P pc = oLdL 3 nx) (hk : zGy E M tb R Z nx (a0 :: a1 :: a2 :: some (.long x) :: ls, .long x :: st, σ, bc, bs)) : zGy E M tb R Z pc (a0 :: a1 :: a2 :: some (.long x) :: ls, st, σ, bc, bs) := zstepy ok hP hk
theorem ty_stI3 (ok : zOKr M tb R d P) {a0 a1 a2 : Option Value} {b : Option Value} {x : Int32} (hP : P pc = oStI 3 nx) (hz : znl a2 = true) (hk : zGy E M tb R Z nx (a0 :: a1 :: a2 :: some (.int x) :: ls, st, σ, bc, bs)) : zGy E M tb R Z pc (a0 :: a1 :: a2 :: b :: ls, .int x :: st, σ, bc, bs) := by
  refine zstepy ok hP ?_
  show zGy E M tb R Z nx (zset (zclr (a0 :: a1 :: a2 :: b :: ls) 3) 3 (some (.int x)), st, σ, bc, bs)
  rw [zclr_id (ls := a0 :: a1 :: a2 :: b :: ls) (k := 2) hz]
  exact hk
theorem ty_stA3 (ok : zOKr M tb R d P) {a0 a1 a2 : Option Value} {b : Option Value} {x : Nat} (hP : P pc = oStA 3 nx) (hz : znl a2 = true) (hk : zGy E M tb R Z nx (a0 :: a1 :: a2 :: some (.ref x) :: ls, st, σ, bc, bs)) : zGy E M tb R Z pc (a0 :: a1 :: a2 :: b :: ls, .ref x :: st, σ, bc, bs) := by
  refine zstepy ok hP ?_
  show zGy E M tb R Z nx (zset (zclr (a0 :: a1 :: a2 :: b :: ls) 3) 3 (some (.ref x)), st, σ, bc, bs)
  rw [zclr_id (ls := a0 :: a1 :: a2 :: b :: ls) (k := 2) hz]
  exact hk
theorem ty_stN3 (ok : zOKr M tb R d P) {a0 a1 a2 : Option Value} {b : Option Value} (hP : P pc = oStA 3 nx) (hz : znl a2 = true) (hk : zGy E M tb R Z nx (a0 :: a1 :: a2 :: some (.null) :: ls, st, σ, bc, bs)) : zGy E M tb R Z pc (a0 :: a1 :: a2 :: b :: ls, .null :: st, σ, bc, bs) := by
  refine zstepy ok hP ?_
  show zGy E M tb R Z nx (zset (zclr (a0 :: a1 :: a2 :: b :: ls) 3) 3 (some (.null)), st, σ, bc, bs)
  rw [zclr_id (ls := a0 :: a1 :: a2 :: b :: ls) (k := 2) hz]
  exact hk
theorem ty_inc3 (ok : zOKr M tb R d P) {a0 a1 a2 : Option Value} {a m : Int} (hP : P pc = oInc 3 (iI m) nx) (hz : znl a2 = true) (hk : zGy E M tb R Z nx (a0 :: a1 :: a2 :: some (.int (iI (a + m))) :: ls, st, σ, bc, bs)) : zGy E M tb R Z pc (a0 :: a1 :: a2 :: some (.int (iI a)) :: ls, st, σ, bc, bs) := by
  refine zstepy ok hP ?_
  show zGy E M tb R Z nx (zset (zclr (a0 :: a1 :: a2 :: some (.int (iI a)) :: ls) 3) 3 (some (.int (iI a + iI m))), st, σ, bc, bs)
  rw [zclr_id (ls := a0 :: a1 :: a2 :: some (.int (iI a)) :: ls) (k := 2) hz, iI_add]
  exact hk
theorem ty_ldI4 (ok : zOKr M tb R d P) {a0 a1 a2 a3 : Option Value} {x : Int32} (hP : P pc = oLdI 4 nx) (hk : zGy E M tb R Z nx (a0 :: a1 :: a2 :: a3 :: some (.int x) :: ls, .int x :: st, σ, bc, bs)) : zGy E M tb R Z pc (a0 :: a1 :: a2 :: a3 :: some (.int x) :: ls, st, σ, bc, bs) := zstepy ok hP hk
theorem ty_ldA4 (ok : zOKr M tb R d P) {a0 a1 a2 a3 : Option Value} {x : Nat} (hP : P pc = oLdA 4 nx) (hk : zGy E M tb R Z nx (a0 :: a1 :: a2 :: a3 :: some (.ref x) :: ls, .ref x :: st, σ, bc, bs)) : zGy E M tb R Z pc (a0 :: a1 :: a2 :: a3 :: some (.ref x) :: ls, st, σ, bc, bs) := zstepy ok hP hk
theorem ty_ldN4 (ok : zOKr M tb R d P) {a0 a1 a2 a3 : Option Value} (hP : P pc = oLdA 4 nx) (hk : zGy E M tb R Z nx (a0 :: a1 :: a2 :: a3 :: some (.null) :: ls, .null :: st, σ, bc, bs)) : zGy E M tb R Z pc (a0 :: a1 :: a2 :: a3 :: some (.null) :: ls, st, σ, bc, bs) := zstepy ok hP hk
theorem ty_ldL4 (ok : zOKr M tb R d P) {a0 a1 a2 a3 : Option Value} {x : Int64} (hP : P pc = oLdL 4 nx) (hk : zGy E M tb R Z nx (a0 :: a1 :: a2 :: a3 :: some (.long x) :: ls, .long x :: st, σ, bc, bs)) : zGy E M tb R Z pc (a0 :: a1 :: a2 :: a3 :: some (.long x) :: ls, st, σ, bc, bs) := zstepy ok hP hk
theorem ty_stI4 (ok : zOKr M tb R d P) {a0 a1 a2 a3 : Option Value} {b : Option Value} {x : Int32} (hP : P pc = oStI 4 nx) (hz : znl a3 = true) (hk : zGy E M tb R Z nx (a0 :: a1 :: a2 :: a3 :: some (.int x) :: ls, st, σ, bc, bs)) : zGy E M tb R Z pc (a0 :: a1 :: a2 :: a3 :: b :: ls, .int x :: st, σ, bc, bs) := by
  refine zstepy ok hP ?_
  show zGy E M tb R Z nx (zset (zclr (a0 :: a1 :: a2 :: a3 :: b :: ls) 4) 4 (some (.int x)), st, σ, bc, bs)
  rw [zclr_id (ls := a0 :: a1 :: a2 :: a3 :: b :: ls) (k := 3) hz]
  exact hk
theorem ty_stA4 (ok : zOKr M tb R d P) {a0 a1 a2 a3 : Option Value} {b : Option Value} {x : Nat} (hP : P pc = oStA 4 nx) (hz : znl a3 = true) (hk : zGy E M tb R Z nx (a0 :: a1 :: a2 :: a3 :: some (.ref x) :: ls, st, σ, bc, bs)) : zGy E M tb R Z pc (a0 :: a1 :: a2 :: a3 :: b :: ls, .ref x :: st, σ, bc, bs) := by
  refine zstepy ok hP ?_
  show zGy E M tb R Z nx (zset (zclr (a0 :: a1 :: a2 :: a3 :: b :: ls) 4) 4 (some (.ref x)), st, σ, bc, bs)
  rw [zclr_id (ls := a0 :: a1 :: a2 :: a3 :: b :: ls) (k := 3) hz]
  exact hk
theorem ty_stN4 (ok : zOKr M tb R d P) {a0 a1 a2 a3 : Option Value} {b : Option Value} (hP : P pc = oStA 4 nx) (hz : znl a3 = true) (hk : zGy E M tb R Z nx (a0 :: a1 :: a2 :: a3 :: some (.null) :: ls, st, σ, bc, bs)) : zGy E M tb R Z pc (a0 :: a1 :: a2 :: a3 :: b :: ls, .null :: st, σ, bc, bs) := by
  refine zstepy ok hP ?_
  show zGy E M tb R Z nx (zset (zclr (a0 :: a1 :: a2 :: a3 :: b :: ls) 4) 4 (some (.null)), st, σ, bc, bs)
  rw [zclr_id (ls := a0 :: a1 :: a2 :: a3 :: b :: ls) (k := 3) hz]
  exact hk
theorem ty_inc4 (ok : zOKr M tb R d P) {a0 a1 a2 a3 : Option Value} {a m : Int} (hP : P pc = oInc 4 (iI m) nx) (hz : znl a3 = true) (hk : zGy E M tb R Z nx (a0 :: a1 :: a2 :: a3 :: some (.int (iI (a + m))) :: ls, st, σ, bc, bs)) : zGy E M tb R Z pc (a0 :: a1 :: a2 :: a3 :: some (.int (iI a)) :: ls, st, σ, bc, bs) := by
  refine zstepy ok hP ?_
  show zGy E M tb R Z nx (zset (zclr (a0 :: a1 :: a2 :: a3 :: some (.int (iI a)) :: ls) 4) 4 (some (.int (iI a + iI m))), st, σ, bc, bs)
  rw [zclr_id (ls := a0 :: a1 :: a2 :: a3 :: some (.int (iI a)) :: ls) (k := 3) hz, iI_add]
  exact hk
theorem ty_ldI5 (ok : zOKr M tb R d P) {a0 a1 a2 a3 a4 : Option Value} {x : Int32} (hP : P pc = oLdI 5 nx) (hk : zGy E M tb R Z nx (a0 :: a1 :: a2 :: a3 :: a4 :: some (.int x) :: ls, .int x :: st, σ, bc, bs)) : zGy E M tb R Z pc (a0 :: a1 :: a2 :: a3 :: a4 :: some (.int x) :: ls, st, σ, bc, bs) := zstepy ok hP hk
theorem ty_ldA5 (ok : zOKr M tb R d P) {a0 a1 a2 a3 a4 : Option Value} {x : Nat} (hP : P pc = oLdA 5 nx) (hk : zGy E M tb R Z nx (a0 :: a1 :: a2 :: a3 :: a4 :: some (.ref x) :: ls, .ref x :: st, σ, bc, bs)) : zGy E M tb R Z pc (a0 :: a1 :: a2 :: a3 :: a4 :: some (.ref x) :: ls, st, σ, bc, bs) := zstepy ok hP hk
theorem ty_ldN5 (ok : zOKr M tb R d P) {a0 a1 a2 a3 a4 : Option Value} (hP : P pc = oLdA 5 nx) (hk : zGy E M tb R Z nx (a0 :: a1 :: a2 :: a3 :: a4 :: some (.null) :: ls, .null :: st, σ, bc, bs)) : zGy E M tb R Z pc (a0 :: a1 :: a2 :: a3 :: a4 :: some (.null) :: ls, st, σ, bc, bs) := zstepy ok hP hk
theorem ty_ldL5 (ok : zOKr M tb R d P) {a0 a1 a2 a3 a4 : Option Value} {x : Int64} (hP : P pc = oLdL 5 nx) (hk : zGy E M tb R Z nx (a0 :: a1 :: a2 :: a3 :: a4 :: some (.long x) :: ls, .long x :: st, σ, bc, bs)) : zGy E M tb R Z pc (a0 :: a1 :: a2 :: a3 :: a4 :: some (.long x) :: ls, st, σ, bc, bs) := zstepy ok hP hk
theorem ty_stI5 (ok : zOKr M tb R d P) {a0 a1 a2 a3 a4 : Option Value} {b : Option Value} {x : Int32} (hP : P pc = oStI 5 nx) (hz : znl a4 = true) (hk : zGy E M tb R Z nx (a0 :: a1 :: a2 :: a3 :: a4 :: some (.int x) :: ls, st, σ, bc, bs)) : zGy E M tb R Z pc (a0 :: a1 :: a2 :: a3 :: a4 :: b :: ls, .int x :: st, σ, bc, bs) := by
  refine zstepy ok hP ?_
  show zGy E M tb R Z nx (zset (zclr (a0 :: a1 :: a2 :: a3 :: a4 :: b :: ls) 5) 5 (some (.int x)), st, σ, bc, bs)
  rw [zclr_id (ls := a0 :: a1 :: a2 :: a3 :: a4 :: b :: ls) (k := 4) hz]
  exact hk
theorem ty_stA5 (ok : zOKr M tb R d P) {a0 a1 a2 a3 a4 : Option Value} {b : Option Value} {x : Nat} (hP : P pc = oStA 5 nx) (hz : znl a4 = true) (hk : zGy E M tb R Z nx (a0 :: a1 :: a2 :: a3 :: a4 :: some (.ref x) :: ls, st, σ, bc, bs)) : zGy E M tb R Z pc (a0 :: a1 :: a2 :: a3 :: a4 :: b :: ls, .ref x :: st, σ, bc, bs) := by
  refine zstepy ok hP ?_
  show zGy E M tb R Z nx (zset (zclr (a0 :: a1 :: a2 :: a3 :: a4 :: b :: ls) 5) 5 (some (.ref x)), st, σ, bc, bs)
  rw [zclr_id (ls := a0 :: a1 :: a2 :: a3 :: a4 :: b :: ls) (k := 4) hz]
  exact hk
theorem ty_stN5 (ok : zOKr M tb R d P) {a0 a1 a2 a3 a4 : Option Value} {b : Option Value} (hP : P pc = oStA 5 nx) (hz : znl a4 = true) (hk : zGy E M tb R Z nx (a0 :: a1 :: a2 :: a3 :: a4 :: some (.null) :: ls, st, σ, bc, bs)) : zGy E M tb R Z pc (a0 :: a1 :: a2 :: a3 :: a4 :: b :: ls, .null :: st, σ, bc, bs) := by
  refine zstepy ok hP ?_
  show zGy E M tb R Z nx (zset (zclr (a0 :: a1 :: a2 :: a3 :: a4 :: b :: ls) 5) 5 (some (.null)), st, σ, bc, bs)
  rw [zclr_id (ls := a0 :: a1 :: a2 :: a3 :: a4 :: b :: ls) (k := 4) hz]
  exact hk
theorem ty_inc5 (ok : zOKr M tb R d P) {a0 a1 a2 a3 a4 : Option Value} {a m : Int} (hP : P pc = oInc 5 (iI m) nx) (hz : znl a4 = true) (hk : zGy E M tb R Z nx (a0 :: a1 :: a2 :: a3 :: a4 :: some (.int (iI (a + m))) :: ls, st, σ, bc, bs)) : zGy E M tb R Z pc (a0 :: a1 :: a2 :: a3 :: a4 :: some (.int (iI a)) :: ls, st, σ, bc, bs) := by
  refine zstepy ok hP ?_
  show zGy E M tb R Z nx (zset (zclr (a0 :: a1 :: a2 :: a3 :: a4 :: some (.int (iI a)) :: ls) 5) 5 (some (.int (iI a + iI m))), st, σ, bc, bs)
  rw [zclr_id (ls := a0 :: a1 :: a2 :: a3 :: a4 :: some (.int (iI a)) :: ls) (k := 4) hz, iI_add]
  exact hk
theorem ty_ldI6 (ok : zOKr M tb R d P) {a0 a1 a2 a3 a4 a5 : Option Value} {x : Int32} (hP : P pc = oLdI 6 nx) (hk : zGy E M tb R Z nx (a0 :: a1 :: a2 :: a3 :: a4 :: a5 :: some (.int x) :: ls, .int x :: st, σ, bc, bs)) : zGy E M tb R Z pc (a0 :: a1 :: a2 :: a3 :: a4 :: a5 :: some (.int x) :: ls, st, σ, bc, bs) := zstepy ok hP hk
theorem ty_ldA6 (ok : zOKr M tb R d P) {a0 a1 a2 a3 a4 a5 : Option Value} {x : Nat} (hP : P pc = oLdA 6 nx) (hk : zGy E M tb R Z nx (a0 :: a1 :: a2 :: a3 :: a4 :: a5 :: some (.ref x) :: ls, .ref x :: st, σ, bc, bs)) : zGy E M tb R Z pc (a0 :: a1 :: a2 :: a3 :: a4 :: a5 :: some (.ref x) :: ls, st, σ, bc, bs) := zstepy ok hP hk
theorem ty_ldN6 (ok : zOKr M tb R d P) {a0 a1 a2 a3 a4 a5 : Option Value} (hP : P pc = oLdA 6 nx) (hk : zGy E M tb R Z nx (a0 :: a1 :: a2 :: a3 :: a4 :: a5 :: some (.null) :: ls, .null :: st, σ, bc, bs)) : zGy E M tb R Z pc (a0 :: a1 :: a2 :: a3 :: a4 :: a5 :: some (.null) :: ls, st, σ, bc, bs) := zstepy ok hP hk
theorem ty_ldL6 (ok : zOKr M tb R d P) {a0 a1 a2 a3 a4 a5 : Option Value} {x : Int64} (hP : P pc = oLdL 6 nx) (hk : zGy E M tb R Z nx (a0 :: a1 :: a2 :: a3 :: a4 :: a5 :: some (.long x) :: ls, .long x :: st, σ, bc, bs)) : zGy E M tb R Z pc (a0 :: a1 :: a2 :: a3 :: a4 :: a5 :: some (.long x) :: ls, st, σ, bc, bs) := zstepy ok hP hk
theorem ty_stI6 (ok : zOKr M tb R d P) {a0 a1 a2 a3 a4 a5 : Option Value} {b : Option Value} {x : Int32} (hP : P pc = oStI 6 nx) (hz : znl a5 = true) (hk : zGy E M tb R Z nx (a0 :: a1 :: a2 :: a3 :: a4 :: a5 :: some (.int x) :: ls, st, σ, bc, bs)) : zGy E M tb R Z pc (a0 :: a1 :: a2 :: a3 :: a4 :: a5 :: b :: ls, .int x :: st, σ, bc, bs) := by
  refine zstepy ok hP ?_
  show zGy E M tb R Z nx (zset (zclr (a0 :: a1 :: a2 :: a3 :: a4 :: a5 :: b :: ls) 6) 6 (some (.int x)), st, σ, bc, bs)
  rw [zclr_id (ls := a0 :: a1 :: a2 :: a3 :: a4 :: a5 :: b :: ls) (k := 5) hz]
  exact hk
theorem ty_stA6 (ok : zOKr M tb R d P) {a0 a1 a2 a3 a4 a5 : Option Value} {b : Option Value} {x : Nat} (hP : P pc = oStA 6 nx) (hz : znl a5 = true) (hk : zGy E M tb R Z nx (a0 :: a1 :: a2 :: a3 :: a4 :: a5 :: some (.ref x) :: ls, st, σ, bc, bs)) : zGy E M tb R Z pc (a0 :: a1 :: a2 :: a3 :: a4 :: a5 :: b :: ls, .ref x :: st, σ, bc, bs) := by
  refine zstepy ok hP ?_
  show zGy E M tb R Z nx (zset (zclr (a0 :: a1 :: a2 :: a3 :: a4 :: a5 :: b :: ls) 6) 6 (some (.ref x)), st, σ, bc, bs)
  rw [zclr_id (ls := a0 :: a1 :: a2 :: a3 :: a4 :: a5 :: b :: ls) (k := 5) hz]
  exact hk
theorem ty_stN6 (ok : zOKr M tb R d P) {a0 a1 a2 a3 a4 a5 : Option Value} {b : Option Value} (hP : P pc = oStA 6 nx) (hz : znl a5 = true) (hk : zGy E M tb R Z nx (a0 :: a1 :: a2 :: a3 :: a4 :: a5 :: some (.null) :: ls, st, σ, bc, bs)) : zGy E M tb R Z pc (a0 :: a1 :: a2 :: a3 :: a4 :: a5 :: b :: ls, .null :: st, σ, bc, bs) := by
  refine zstepy ok hP ?_
  show zGy E M tb R Z nx (zset (zclr (a0 :: a1 :: a2 :: a3 :: a4 :: a5 :: b :: ls) 6) 6 (some (.null)), st, σ, bc, bs)
  rw [zclr_id (ls := a0 :: a1 :: a2 :: a3 :: a4 :: a5 :: b :: ls) (k := 5) hz]
  exact hk
theorem ty_inc6 (ok : zOKr M tb R d P) {a0 a1 a2 a3 a4 a5 : Option Value} {a m : Int} (hP : P pc = oInc 6 (iI m) nx) (hz : znl a5 = true) (hk : zGy E M tb R Z nx (a0 :: a1 :: a2 :: a3 :: a4 :: a5 :: some (.int (iI (a + m))) :: ls, st, σ, bc, bs)) : zGy E M tb R Z pc (a0 :: a1 :: a2 :: a3 :: a4 :: a5 :: some (.int (iI a)) :: ls, st, σ, bc, bs) := by
  refine zstepy ok hP ?_
  show zGy E M tb R Z nx (zset (zclr (a0 :: a1 :: a2 :: a3 :: a4 :: a5 :: some (.int (iI a)) :: ls) 6) 6 (some (.int (iI a + iI m))), st, σ, bc, bs)
  rw [zclr_id (ls := a0 :: a1 :: a2 :: a3 :: a4 :: a5 :: some (.int (iI a)) :: ls) (k := 5) hz, iI_add]
  exact hk
theorem ty_ldI7 (ok : zOKr M tb R d P) {a0 a1 a2 a3 a4 a5 a6 : Option Value} {x : Int32} (hP : P pc = oLdI 7 nx) (hk : zGy E M tb R Z nx (a0 :: a1 :: a2 :: a3 :: a4 :: a5 :: a6 :: some (.int x) :: ls, .int x :: st, σ, bc, bs)) : zGy E M tb R Z pc (a0 :: a1 :: a2 :: a3 :: a4 :: a5 :: a6 :: some (.int x) :: ls, st, σ, bc, bs) := zstepy ok hP hk
theorem ty_ldA7 (ok : zOKr M tb R d P) {a0 a1 a2 a3 a4 a5 a6 : Option Value} {x : Nat} (hP : P pc = oLdA 7 nx) (hk : zGy E M tb R Z nx (a0 :: a1 :: a2 :: a3 :: a4 :: a5 :: a6 :: some (.ref x) :: ls, .ref x :: st, σ, bc, bs)) : zGy E M tb R Z pc (a0 :: a1 :: a2 :: a3 :: a4 :: a5 :: a6 :: some (.ref x) :: ls, st, σ, bc, bs) := zstepy ok hP hk
theorem ty_ldN7 (ok : zOKr M tb R d P) {a0 a1 a2 a3 a4 a5 a6 : Option Value} (hP : P pc = oLdA 7 nx) (hk : zGy E M tb R Z nx (a0 :: a1 :: a2 :: a3 :: a4 :: a5 :: a6 :: some (.null) :: ls, .null :: st, σ, bc, bs)) : zGy E M tb R Z pc (a0 :: a1 :: a2 :: a3 :: a4 :: a5 :: a6 :: some (.null) :: ls, st, σ, bc, bs) := zstepy ok hP hk
theorem ty_stI7 (ok : zOKr M tb R d P) {a0 a1 a2 a3 a4 a5 a6 : Option Value} {b : Option Value} {x : Int32} (hP : P pc = oStI 7 nx) (hz : znl a6 = true) (hk : zGy E M tb R Z nx (a0 :: a1 :: a2 :: a3 :: a4 :: a5 :: a6 :: some (.int x) :: ls, st, σ, bc, bs)) : zGy E M tb R Z pc (a0 :: a1 :: a2 :: a3 :: a4 :: a5 :: a6 :: b :: ls, .int x :: st, σ, bc, bs) := by
  refine zstepy ok hP ?_
  show zGy E M tb R Z nx (zset (zclr (a0 :: a1 :: a2 :: a3 :: a4 :: a5 :: a6 :: b :: ls) 7) 7 (some (.int x)), st, σ, bc, bs)
  rw [zclr_id (ls := a0 :: a1 :: a2 :: a3 :: a4 :: a5 :: a6 :: b :: ls) (k := 6) hz]
  exact hk
theorem ty_stA7 (ok : zOKr M tb R d P) {a0 a1 a2 a3 a4 a5 a6 : Option Value} {b : Option Value} {x : Nat} (hP : P pc = oStA 7 nx) (hz : znl a6 = true) (hk : zGy E M tb R Z nx (a0 :: a1 :: a2 :: a3 :: a4 :: a5 :: a6 :: some (.ref x) :: ls, st, σ, bc, bs)) : zGy E M tb R Z pc (a0 :: a1 :: a2 :: a3 :: a4 :: a5 :: a6 :: b :: ls, .ref x :: st, σ, bc, bs) := by
  refine zstepy ok hP ?_
  show zGy E M tb R Z nx (zset (zclr (a0 :: a1 :: a2 :: a3 :: a4 :: a5 :: a6 :: b :: ls) 7) 7 (some (.ref x)), st, σ, bc, bs)
  rw [zclr_id (ls := a0 :: a1 :: a2 :: a3 :: a4 :: a5 :: a6 :: b :: ls) (k := 6) hz]
  exact hk
theorem ty_stN7 (ok : zOKr M tb R d P) {a0 a1 a2 a3 a4 a5 a6 : Option Value} {b : Option Value} (hP : P pc = oStA 7 nx) (hz : znl a6 = true) (hk : zGy E M tb R Z nx (a0 :: a1 :: a2 :: a3 :: a4 :: a5 :: a6 :: some (.null) :: ls, st, σ, bc, bs)) : zGy E M tb R Z pc (a0 :: a1 :: a2 :: a3 :: a4 :: a5 :: a6 :: b :: ls, .null :: st, σ, bc, bs) := by
  refine zstepy ok hP ?_
  show zGy E M tb R Z nx (zset (zclr (a0 :: a1 :: a2 :: a3 :: a4 :: a5 :: a6 :: b :: ls) 7) 7 (some (.null)), st, σ, bc, bs)
  rw [zclr_id (ls := a0 :: a1 :: a2 :: a3 :: a4 :: a5 :: a6 :: b :: ls) (k := 6) hz]
  exact hk
theorem ty_inc7 (ok : zOKr M tb R d P) {a0 a1 a2 a3 a4 a5 a6 : Option Value} {a m : Int} (hP : P pc = oInc 7 (iI m) nx) (hz : znl a6 = true) (hk : zGy E M tb R Z nx (a0 :: a1 :: a2 :: a3 :: a4 :: a5 :: a6 :: some (.int (iI (a + m))) :: ls, st, σ, bc, bs)) : zGy E M tb R Z pc (a0 :: a1 :: a2 :: a3 :: a4 :: a5 :: a6 :: some (.int (iI a)) :: ls, st, σ, bc, bs) := by
  refine zstepy ok hP ?_
  show zGy E M tb R Z nx (zset (zclr (a0 :: a1 :: a2 :: a3 :: a4 :: a5 :: a6 :: some (.int (iI a)) :: ls) 7) 7 (some (.int (iI a + iI m))), st, σ, bc, bs)
  rw [zclr_id (ls := a0 :: a1 :: a2 :: a3 :: a4 :: a5 :: a6 :: some (.int (iI a)) :: ls) (k := 6) hz, iI_add]
  exact hk
theorem ty_ldI8 (ok : zOKr M tb R d P) {a0 a1 a2 a3 a4 a5 a6 a7 : Option Value} {x : Int32} (hP : P pc = oLdI 8 nx) (hk : zGy E M tb R Z nx (a0 :: a1 :: a2 :: a3 :: a4 :: a5 :: a6 :: a7 :: some (.int x) :: ls, .int x :: st, σ, bc, bs)) : zGy E M tb R Z pc (a0 :: a1 :: a2 :: a3 :: a4 :: a5 :: a6 :: a7 :: some (.int x) :: ls, st, σ, bc, bs) := zstepy ok hP hk
theorem ty_ldA8 (ok : zOKr M tb R d P) {a0 a1 a2 a3 a4 a5 a6 a7 : Option Value} {x : Nat} (hP : P pc = oLdA 8 nx) (hk : zGy E M tb R Z nx (a0 :: a1 :: a2 :: a3 :: a4 :: a5 :: a6 :: a7 :: some (.ref x) :: ls, .ref x :: st, σ, bc, bs)) : zGy E M tb R Z pc (a0 :: a1 :: a2 :: a3 :: a4 :: a5 :: a6 :: a7 :: some (.ref x) :: ls, st, σ, bc, bs) := zstepy ok hP hk
theorem ty_ldN8 (ok : zOKr M tb R d P) {a0 a1 a2 a3 a4 a5 a6 a7 : Option Value} (hP : P pc = oLdA 8 nx) (hk : zGy E M tb R Z nx (a0 :: a1 :: a2 :: a3 :: a4 :: a5 :: a6 :: a7 :: some (.null) :: ls, .null :: st, σ, bc, bs)) : zGy E M tb R Z pc (a0 :: a1 :: a2 :: a3 :: a4 :: a5 :: a6 :: a7 :: some (.null) :: ls, st, σ, bc, bs) := zstepy ok hP hk
theorem ty_ldL8 (ok : zOKr M tb R d P) {a0 a1 a2 a3 a4 a5 a6 a7 : Option Value} {x : Int64} (hP : P pc = oLdL 8 nx) (hk : zGy E M tb R Z nx (a0 :: a1 :: a2 :: a3 :: a4 :: a5 :: a6 :: a7 :: some (.long x) :: ls, .long x :: st, σ, bc, bs)) : zGy E M tb R Z pc (a0 :: a1 :: a2 :: a3 :: a4 :: a5 :: a6 :: a7 :: some (.long x) :: ls, st, σ, bc, bs) := zstepy ok hP hk
theorem ty_stI8 (ok : zOKr M tb R d P) {a0 a1 a2 a3 a4 a5 a6 a7 : Option Value} {b : Option Value} {x : Int32} (hP : P pc = oStI 8 nx) (hz : znl a7 = true) (hk : zGy E M tb R Z nx (a0 :: a1 :: a2 :: a3 :: a4 :: a5 :: a6 :: a7 :: some (.int x) :: ls, st, σ, bc, bs)) : zGy E M tb R Z pc (a0 :: a1 :: a2 :: a3 :: a4 :: a5 :: a6 :: a7 :: b :: ls, .int x :: st, σ, bc, bs) := by
  refine zstepy ok hP ?_
  show zGy E M tb R Z nx (zset (zclr (a0 :: a1 :: a2 :: a3 :: a4 :: a5 :: a6 :: a7 :: b :: ls) 8) 8 (some (.int x)), st, σ, bc, bs)
  rw [zclr_id (ls := a0 :: a1 :: a2 :: a3 :: a4 :: a5 :: a6 :: a7 :: b :: ls) (k := 7) hz]
  exact hk
theorem ty_stA8 (ok : zOKr M tb R d P) {a0 a1 a2 a3 a4 a5 a6 a7 : Option Value} {b : Option Value} {x : Nat} (hP : P pc = oStA 8 nx) (hz : znl a7 = true) (hk : zGy E M tb R Z nx (a0 :: a1 :: a2 :: a3 :: a4 :: a5 :: a6 :: a7 :: some (.ref x) :: ls, st, σ, bc, bs)) : zGy E M tb R Z pc (a0 :: a1 :: a2 :: a3 :: a4 :: a5 :: a6 :: a7 :: b :: ls, .ref x :: st, σ, bc, bs) := by
  refine zstepy ok hP ?_
  show zGy E M tb R Z nx (zset (zclr (a0 :: a1 :: a2 :: a3 :: a4 :: a5 :: a6 :: a7 :: b :: ls) 8) 8 (some (.ref x)), st, σ, bc, bs)
  rw [zclr_id (ls := a0 :: a1 :: a2 :: a3 :: a4 :: a5 :: a6 :: a7 :: b :: ls) (k := 7) hz]
  exact hk
theorem ty_stN8 (ok : zOKr M tb R d P) {a0 a1 a2 a3 a4 a5 a6 a7 : Option Value} {b : Option Value} (hP : P pc = oStA 8 nx) (hz : znl a7 = true) (hk : zGy E M tb R Z nx (a0 :: a1 :: a2 :: a3 :: a4 :: a5 :: a6 :: a7 :: some (.null) :: ls, st, σ, bc, bs)) : zGy E M tb R Z pc (a0 :: a1 :: a2 :: a3 :: a4 :: a5 :: a6 :: a7 :: b :: ls, .null :: st, σ, bc, bs) := by
  refine zstepy ok hP ?_
  show zGy E M tb R Z nx (zset (zclr (a0 :: a1 :: a2 :: a3 :: a4 :: a5 :: a6 :: a7 :: b :: ls) 8) 8 (some (.null)), st, σ, bc, bs)
  rw [zclr_id (ls := a0 :: a1 :: a2 :: a3 :: a4 :: a5 :: a6 :: a7 :: b :: ls) (k := 7) hz]
  exact hk
theorem ty_inc8 (ok : zOKr M tb R d P) {a0 a1 a2 a3 a4 a5 a6 a7 : Option Value} {a m : Int} (hP : P pc = oInc 8 (iI m) nx) (hz : znl a7 = true) (hk : zGy E M tb R Z nx (a0 :: a1 :: a2 :: a3 :: a4 :: a5 :: a6 :: a7 :: some (.int (iI (a + m))) :: ls, st, σ, bc, bs)) : zGy E M tb R Z pc (a0 :: a1 :: a2 :: a3 :: a4 :: a5 :: a6 :: a7 :: some (.int (iI a)) :: ls, st, σ, bc, bs) := by
  refine zstepy ok hP ?_
  show zGy E M tb R Z nx (zset (zclr (a0 :: a1 :: a2 :: a3 :: a4 :: a5 :: a6 :: a7 :: some (.int (iI a)) :: ls) 8) 8 (some (.int (iI a + iI m))), st, σ, bc, bs)
  rw [zclr_id (ls := a0 :: a1 :: a2 :: a3 :: a4 :: a5 :: a6 :: a7 :: some (.int (iI a)) :: ls) (k := 7) hz, iI_add]
  exact hk
theorem ty_ldI9 (ok : zOKr M tb R d P) {a0 a1 a2 a3 a4 a5 a6 a7 a8 : Option Value} {x : Int32} (hP : P pc = oLdI 9 nx) (hk : zGy E M tb R Z nx (a0 :: a1 :: a2 :: a3 :: a4 :: a5 :: a6 :: a7 :: a8 :: some (.int x) :: ls, .int x :: st, σ, bc, bs)) : zGy E M tb R Z pc (a0 :: a1 :: a2 :: a3 :: a4 :: a5 :: a6 :: a7 :: a8 :: some (.int x) :: ls, st, σ, bc, bs) := zstepy ok hP hk
theorem ty_ldA9 (ok : zOKr M tb R d P) {a0 a1 a2 a3 a4 a5 a6 a7 a8 : Option Value} {x : Nat} (hP : P pc = oLdA 9 nx) (hk : zGy E M tb R Z nx (a0 :: a1 :: a2 :: a3 :: a4 :: a5 :: a6 :: a7 :: a8 :: some (.ref x) :: ls, .ref x :: st, σ, bc, bs)) : zGy E M tb R Z pc (a0 :: a1 :: a2 :: a3 :: a4 :: a5 :: a6 :: a7 :: a8 :: some (.ref x) :: ls, st, σ, bc, bs) := zstepy ok hP hk
theorem ty_ldN9 (ok : zOKr M tb R d P) {a0 a1 a2 a3 a4 a5 a6 a7 a8 : Option Value} (hP : P pc = oLdA 9 nx) (hk : zGy E M tb R Z nx (a0 :: a1 :: a2 :: a3 :: a4 :: a5 :: a6 :: a7 :: a8 :: some (.null) :: ls, .null :: st, σ, bc, bs)) : zGy E M tb R Z pc (a0 :: a1 :: a2 :: a3 :: a4 :: a5 :: a6 :: a7 :: a8 :: some (.null) :: ls, st, σ, bc, bs) := zstepy ok hP hk
theorem ty_stI9 (ok : zOKr M tb R d P) {a0 a1 a2 a3 a4 a5 a6 a7 a8 : Option Value} {b : Option Value} {x : Int32} (hP : P pc = oStI 9 nx) (hz : znl a8 = true) (hk : zGy E M tb R Z nx (a0 :: a1 :: a2 :: a3 :: a4 :: a5 :: a6 :: a7 :: a8 :: some (.int x) :: ls, st, σ, bc, bs)) : zGy E M tb R Z pc (a0 :: a1 :: a2 :: a3 :: a4 :: a5 :: a6 :: a7 :: a8 :: b :: ls, .int x :: st, σ, bc, bs) := by
  refine zstepy ok hP ?_
  show zGy E M tb R Z nx (zset (zclr (a0 :: a1 :: a2 :: a3 :: a4 :: a5 :: a6 :: a7 :: a8 :: b :: ls) 9) 9 (some (.int x)), st, σ, bc, bs)
  rw [zclr_id (ls := a0 :: a1 :: a2 :: a3 :: a4 :: a5 :: a6 :: a7 :: a8 :: b :: ls) (k := 8) hz]
  exact hk
theorem ty_stA9 (ok : zOKr M tb R d P) {a0 a1 a2 a3 a4 a5 a6 a7 a8 : Option Value} {b : Option Value} {x : Nat} (hP : P pc = oStA 9 nx) (hz : znl a8 = true) (hk : zGy E M tb R Z nx (a0 :: a1 :: a2 :: a3 :: a4 :: a5 :: a6 :: a7 :: a8 :: some (.ref x) :: ls, st, σ, bc, bs)) : zGy E M tb R Z pc (a0 :: a1 :: a2 :: a3 :: a4 :: a5 :: a6 :: a7 :: a8 :: b :: ls, .ref x :: st, σ, bc, bs) := by
  refine zstepy ok hP ?_
  show zGy E M tb R Z nx (zset (zclr (a0 :: a1 :: a2 :: a3 :: a4 :: a5 :: a6 :: a7 :: a8 :: b :: ls) 9) 9 (some (.ref x)), st, σ, bc, bs)
  rw [zclr_id (ls := a0 :: a1 :: a2 :: a3 :: a4 :: a5 :: a6 :: a7 :: a8 :: b :: ls) (k := 8) hz]
  exact hk
theorem ty_stN9 (ok : zOKr M tb R d P) {a0 a1 a2 a3 a4 a5 a6 a7 a8 : Option Value} {b : Option Value} (hP : P pc = oStA 9 nx) (hz : znl a8 = true) (hk : zGy E M tb R Z nx (a0 :: a1 :: a2 :: a3 :: a4 :: a5 :: a6 :: a7 :: a8 :: some (.null) :: ls, st, σ, bc, bs)) : zGy E M tb R Z pc (a0 :: a1 :: a2 :: a3 :: a4 :: a5 :: a6 :: a7 :: a8 :: b :: ls, .null :: st, σ, bc, bs) := by
  refine zstepy ok hP ?_
  show zGy E M tb R Z nx (zset (zclr (a0 :: a1 :: a2 :: a3 :: a4 :: a5 :: a6 :: a7 :: a8 :: b :: ls) 9) 9 (some (.null)), st, σ, bc, bs)
  rw [zclr_id (ls := a0 :: a1 :: a2 :: a3 :: a4 :: a5 :: a6 :: a7 :: a8 :: b :: ls) (k := 8) hz]
  exact hk
theorem ty_inc9 (ok : zOKr M tb R d P) {a0 a1 a2 a3 a4 a5 a6 a7 a8 : Option Value} {a m : Int} (hP : P pc = oInc 9 (iI m) nx) (hz : znl a8 = true) (hk : zGy E M tb R Z nx (a0 :: a1 :: a2 :: a3 :: a4 :: a5 :: a6 :: a7 :: a8 :: some (.int (iI (a + m))) :: ls, st, σ, bc, bs)) : zGy E M tb R Z pc (a0 :: a1 :: a2 :: a3 :: a4 :: a5 :: a6 :: a7 :: a8 :: some (.int (iI a)) :: ls, st, σ, bc, bs) := by
  refine zstepy ok hP ?_
  show zGy E M tb R Z nx (zset (zclr (a0 :: a1 :: a2 :: a3 :: a4 :: a5 :: a6 :: a7 :: a8 :: some (.int (iI a)) :: ls) 9) 9 (some (.int (iI a + iI m))), st, σ, bc, bs)
  rw [zclr_id (ls := a0 :: a1 :: a2 :: a3 :: a4 :: a5 :: a6 :: a7 :: a8 :: some (.int (iI a)) :: ls) (k := 8) hz, iI_add]
  exact hk
theorem ty_ldI10 (ok : zOKr M tb R d P) {a0 a1 a2 a3 a4 a5 a6 a7 a8 a9 : Option Value} {x : Int32} (hP : P pc = oLdI 10 nx) (hk : zGy E M tb R Z nx (a0 :: a1 :: a2 :: a3 :: a4 :: a5 :: a6 :: a7 :: a8 :: a9 :: some (.int x) :: ls, .int x :: st, σ, bc, bs)) : zGy E M tb R Z pc (a0 :: a1 :: a2 :: a3 :: a4 :: a5 :: a6 :: a7 :: a8 :: a9 :: some (.int x) :: ls, st, σ, bc, bs) := zstepy ok hP hk
theorem ty_ldA10 (ok : zOKr M tb R d P) {a0 a1 a2 a3 a4 a5 a6 a7 a8 a9 : Option Value} {x : Nat} (hP : P pc = oLdA 10 nx) (hk : zGy E M tb R Z nx (a0 :: a1 :: a2 :: a3 :: a4 :: a5 :: a6 :: a7 :: a8 :: a9 :: some (.ref x) :: ls, .ref x :: st, σ, bc, bs)) : zGy E M tb R Z pc (a0 :: a1 :: a2 :: a3 :: a4 :: a5 :: a6 :: a7 :: a8 :: a9 :: some (.ref x) :: ls, st, σ, bc, bs) := zstepy ok hP hk
theorem ty_ldN10 (ok : zOKr M tb R d P) {a0 a1 a2 a3 a4 a5 a6 a7 a8 a9 : Option Value} (hP : P pc = oLdA 10 nx) (hk : zGy E M tb R Z nx (a0 :: a1 :: a2 :: a3 :: a4 :: a5 :: a6 :: a7 :: a8 :: a9 :: some (.null) :: ls, .null :: st, σ, bc, bs)) : zGy E M tb R Z pc (a0 :: a1 :: a2 :: a3 :: a4 :: a5 :: a6 :: a7 :: a8 :: a9 :: some (.null) :: ls, st, σ, bc, bs) := zstepy ok hP hk
theorem ty_stI10 (ok : zOKr M tb R d P) {a0 a1 a2 a3 a4 a5 a6 a7 a8 a9 : Option Value} {b : Option Value} {x : Int32} (hP : P pc = oStI 10 nx) (hz : znl a9 = true) (hk : zGy E M tb R Z nx (a0 :: a1 :: a2 :: a3 :: a4 :: a5 :: a6 :: a7 :: a8 :: a9 :: some (.int x) :: ls, st, σ, bc, bs)) : zGy E M tb R Z pc (a0 :: a1 :: a2 :: a3 :: a4 :: a5 :: a6 :: a7 :: a8 :: a9 :: b :: ls, .int x :: st, σ, bc, bs) := by
  refine zstepy ok hP ?_
  show zGy E M tb R Z nx (zset (zclr (a0 :: a1 :: a2 :: a3 :: a4 :: a5 :: a6 :: a7 :: a8 :: a9 :: b :: ls) 10) 10 (some (.int x)), st, σ, bc, bs)
  rw [zclr_id (ls := a0 :: a1 :: a2 :: a3 :: a4 :: a5 :: a6 :: a7 :: a8 :: a9 :: b :: ls) (k := 9) hz]
  exact hk
theorem ty_stA10 (ok : zOKr M tb R d P) {a0 a1 a2 a3 a4 a5 a6 a7 a8 a9 : Option Value} {b : Option Value} {x : Nat} (hP : P pc = oStA 10 nx) (hz : znl a9 = true) (hk : zGy E M tb R Z nx (a0 :: a1 :: a2 :: a3 :: a4 :: a5 :: a6 :: a7 :: a8 :: a9 :: some (.ref x) :: ls, st, σ, bc, bs)) : zGy E M tb R Z pc (a0 :: a1 :: a2 :: a3 :: a4 :: a5 :: a6 :: a7 :: a8 :: a9 :: b :: ls, .ref x :: st, σ, bc, bs) := by
  refine zstepy ok hP ?_
  show zGy E M tb R Z nx (zset (zclr (a0 :: a1 :: a2 :: a3 :: a4 :: a5 :: a6 :: a7 :: a8 :: a9 :: b :: ls) 10) 10 (some (.ref x)), st, σ, bc, bs)
  rw [zclr_id (ls := a0 :: a1 :: a2 :: a3 :: a4 :: a5 :: a6 :: a7 :: a8 :: a9 :: b :: ls) (k := 9) hz]
  exact hk
theorem ty_stN10 (ok : zOKr M tb R d P) {a0 a1 a2 a3 a4 a5 a6 a7 a8 a9 : Option Value} {b : Option Value} (hP : P pc = oStA 10 nx) (hz : znl a9 = true) (hk : zGy E M tb R Z nx (a0 :: a1 :: a2 :: a3 :: a4 :: a5 :: a6 :: a7 :: a8 :: a9 :: some (.null) :: ls, st, σ, bc, bs)) : zGy E M tb R Z pc (a0 :: a1 :: a2 :: a3 :: a4 :: a5 :: a6 :: a7 :: a8 :: a9 :: b :: ls, .null :: st, σ, bc, bs) := by
  refine zstepy ok hP ?_
  show zGy E M tb R Z nx (zset (zclr (a0 :: a1 :: a2 :: a3 :: a4 :: a5 :: a6 :: a7 :: a8 :: a9 :: b :: ls) 10) 10 (some (.null)), st, σ, bc, bs)
  rw [zclr_id (ls := a0 :: a1 :: a2 :: a3 :: a4 :: a5 :: a6 :: a7 :: a8 :: a9 :: b :: ls) (k := 9) hz]
  exact hk
theorem ty_inc10 (ok : zOKr M tb R d P) {a0 a1 a2 a3 a4 a5 a6 a7 a8 a9 : Option Value} {a m : Int} (hP : P pc = oInc 10 (iI m) nx) (hz : znl a9 = true) (hk : zGy E M tb R Z nx (a0 :: a1 :: a2 :: a3 :: a4 :: a5 :: a6 :: a7 :: a8 :: a9 :: some (.int (iI (a + m))) :: ls, st, σ, bc, bs)) : zGy E M tb R Z pc (a0 :: a1 :: a2 :: a3 :: a4 :: a5 :: a6 :: a7 :: a8 :: a9 :: some (.int (iI a)) :: ls, st, σ, bc, bs) := by
  refine zstepy ok hP ?_
  show zGy E M tb R Z nx (zset (zclr (a0 :: a1 :: a2 :: a3 :: a4 :: a5 :: a6 :: a7 :: a8 :: a9 :: some (.int (iI a)) :: ls) 10) 10 (some (.int (iI a + iI m))), st, σ, bc, bs)
  rw [zclr_id (ls := a0 :: a1 :: a2 :: a3 :: a4 :: a5 :: a6 :: a7 :: a8 :: a9 :: some (.int (iI a)) :: ls) (k := 9) hz, iI_add]
  exact hk
theorem ty_stL4 (ok : zOKr M tb R d P) {a0 a1 a2 a3 b b2 : Option Value} {x : Int64} (hP : P pc = oStL 4 nx) (hz : znl a3 = true) (hk : zGy E M tb R Z nx (a0 :: a1 :: a2 :: a3 :: some (.long x) :: none :: ls, st, σ, bc, bs)) : zGy E M tb R Z pc (a0 :: a1 :: a2 :: a3 :: b :: b2 :: ls, .long x :: st, σ, bc, bs) := by
  refine zstepy ok hP ?_
  show zGy E M tb R Z nx (zset (zset (zclr (a0 :: a1 :: a2 :: a3 :: b :: b2 :: ls) 4) 4 (some (.long x))) 5 none, st, σ, bc, bs)
  rw [zclr_id (ls := a0 :: a1 :: a2 :: a3 :: b :: b2 :: ls) (k := 3) hz]
  exact hk
theorem ty_stL6 (ok : zOKr M tb R d P) {a0 a1 a2 a3 a4 a5 b b2 : Option Value} {x : Int64} (hP : P pc = oStL 6 nx) (hz : znl a5 = true) (hk : zGy E M tb R Z nx (a0 :: a1 :: a2 :: a3 :: a4 :: a5 :: some (.long x) :: none :: ls, st, σ, bc, bs)) : zGy E M tb R Z pc (a0 :: a1 :: a2 :: a3 :: a4 :: a5 :: b :: b2 :: ls, .long x :: st, σ, bc, bs) := by
  refine zstepy ok hP ?_
  show zGy E M tb R Z nx (zset (zset (zclr (a0 :: a1 :: a2 :: a3 :: a4 :: a5 :: b :: b2 :: ls) 6) 6 (some (.long x))) 7 none, st, σ, bc, bs)
  rw [zclr_id (ls := a0 :: a1 :: a2 :: a3 :: a4 :: a5 :: b :: b2 :: ls) (k := 5) hz]
  exact hk
theorem ty_stL8 (ok : zOKr M tb R d P) {a0 a1 a2 a3 a4 a5 a6 a7 b b2 : Option Value} {x : Int64} (hP : P pc = oStL 8 nx) (hz : znl a7 = true) (hk : zGy E M tb R Z nx (a0 :: a1 :: a2 :: a3 :: a4 :: a5 :: a6 :: a7 :: some (.long x) :: none :: ls, st, σ, bc, bs)) : zGy E M tb R Z pc (a0 :: a1 :: a2 :: a3 :: a4 :: a5 :: a6 :: a7 :: b :: b2 :: ls, .long x :: st, σ, bc, bs) := by
  refine zstepy ok hP ?_
  show zGy E M tb R Z nx (zset (zset (zclr (a0 :: a1 :: a2 :: a3 :: a4 :: a5 :: a6 :: a7 :: b :: b2 :: ls) 8) 8 (some (.long x))) 9 none, st, σ, bc, bs)
  rw [zclr_id (ls := a0 :: a1 :: a2 :: a3 :: a4 :: a5 :: a6 :: a7 :: b :: b2 :: ls) (k := 7) hz]
  exact hk
theorem ty_ci (ok : zOKr M tb R d P) {x : Int32} (hP : P pc = oCI x nx) (hk : zGy E M tb R Z nx (ls, .int x :: st, σ, bc, bs)) : zGy E M tb R Z pc (ls, st, σ, bc, bs) := zstepy ok hP hk
theorem ty_cl (ok : zOKr M tb R d P) {x : Int64} (hP : P pc = oCL x nx) (hk : zGy E M tb R Z nx (ls, .long x :: st, σ, bc, bs)) : zGy E M tb R Z pc (ls, st, σ, bc, bs) := zstepy ok hP hk
theorem ty_null (ok : zOKr M tb R d P) (hP : P pc = oNull nx) (hk : zGy E M tb R Z nx (ls, .null :: st, σ, bc, bs)) : zGy E M tb R Z pc (ls, st, σ, bc, bs) := zstepy ok hP hk
theorem ty_add (ok : zOKr M tb R d P) {a b : Int} (hP : P pc = oBin (fun x y => x + y) nx) (hk : zGy E M tb R Z nx (ls, .int (iI (a + b)) :: st, σ, bc, bs)) : zGy E M tb R Z pc (ls, .int (iI b) :: .int (iI a) :: st, σ, bc, bs) := by
  refine zstepy ok hP ?_
  show zGy E M tb R Z nx (ls, .int (iI a + iI b) :: st, σ, bc, bs)
  rw [iI_add]
  exact hk
theorem ty_sub (ok : zOKr M tb R d P) {a b : Int} (hP : P pc = oBin (fun x y => x - y) nx) (hk : zGy E M tb R Z nx (ls, .int (iI (a - b)) :: st, σ, bc, bs)) : zGy E M tb R Z pc (ls, .int (iI b) :: .int (iI a) :: st, σ, bc, bs) := by
  refine zstepy ok hP ?_
  show zGy E M tb R Z nx (ls, .int (iI a - iI b) :: st, σ, bc, bs)
  rw [iI_sub]
  exact hk
theorem ty_mul (ok : zOKr M tb R d P) {a b : Int} (hP : P pc = oBin (fun x y => x * y) nx) (hk : zGy E M tb R Z nx (ls, .int (iI (a * b)) :: st, σ, bc, bs)) : zGy E M tb R Z pc (ls, .int (iI b) :: .int (iI a) :: st, σ, bc, bs) := by
  refine zstepy ok hP ?_
  show zGy E M tb R Z nx (ls, .int (iI a * iI b) :: st, σ, bc, bs)
  rw [iI_mul]
  exact hk
theorem ty_div (ok : zOKr M tb R d P) {a b : Int} (hP : P pc = oDiv (fun x y => x / y) nx) (ha : zb a) (hb : zb b) (h0 : 0 ≤ a) (h1 : 0 < b) (hk : zGy E M tb R Z nx (ls, .int (iI (a / b)) :: st, σ, bc, bs)) : zGy E M tb R Z pc (ls, .int (iI b) :: .int (iI a) :: st, σ, bc, bs) := by
  refine zstepy ok hP ?_
  have hn : ¬ iI b = 0 := fun e => by rw [iI_0, iI_eq hb ⟨by omega, by omega⟩] at e; omega
  refine ⟨hn, ?_⟩
  dsimp only
  rw [iI_div ha hb h0 h1]
  exact hk
theorem ty_rem (ok : zOKr M tb R d P) {a b : Int} (hP : P pc = oDiv (fun x y => x - x / y * y) nx) (ha : zb a) (hb : zb b) (h0 : 0 ≤ a) (h1 : 0 < b) (hk : zGy E M tb R Z nx (ls, .int (iI (a % b)) :: st, σ, bc, bs)) : zGy E M tb R Z pc (ls, .int (iI b) :: .int (iI a) :: st, σ, bc, bs) := by
  refine zstepy ok hP ?_
  have hn : ¬ iI b = 0 := fun e => by rw [iI_0, iI_eq hb ⟨by omega, by omega⟩] at e; omega
  refine ⟨hn, ?_⟩
  dsimp only
  rw [iI_rem ha hb h0 h1]
  exact hk
theorem ty_bin (ok : zOKr M tb R d P) {f : Int32 → Int32 → Int32} {x y v : Int32} (hP : P pc = oBin f nx) (hv : f x y = v) (hk : zGy E M tb R Z nx (ls, .int v :: st, σ, bc, bs)) : zGy E M tb R Z pc (ls, .int y :: .int x :: st, σ, bc, bs) := zstepy ok hP (by subst hv; exact hk)
theorem ty_i2i (ok : zOKr M tb R d P) {f : Int32 → Int32} {x v : Int32} (hP : P pc = oI2I f nx) (hv : f x = v) (hk : zGy E M tb R Z nx (ls, .int v :: st, σ, bc, bs)) : zGy E M tb R Z pc (ls, .int x :: st, σ, bc, bs) := zstepy ok hP (by subst hv; exact hk)
theorem ty_i2l (ok : zOKr M tb R d P) {x : Int32} (hP : P pc = oI2L nx) (hk : zGy E M tb R Z nx (ls, .long x.toInt64 :: st, σ, bc, bs)) : zGy E M tb R Z pc (ls, .int x :: st, σ, bc, bs) := zstepy ok hP hk
theorem ty_lcmp (ok : zOKr M tb R d P) {x y : Int64} (hP : P pc = oLcmp nx) (hk : zGy E M tb R Z nx (ls, .int (lg_cmp x y) :: st, σ, bc, bs)) : zGy E M tb R Z pc (ls, .long y :: .long x :: st, σ, bc, bs) := zstepy ok hP hk
theorem ty_ldv (ok : zOKr M tb R d P) {f : Int64 → Int64 → Int64} {x y v : Int64} (hP : P pc = oLDiv f nx) (hn : ¬ y = 0) (hv : f x y = v) (hk : zGy E M tb R Z nx (ls, .long v :: st, σ, bc, bs)) : zGy E M tb R Z pc (ls, .long y :: .long x :: st, σ, bc, bs) := zstepy ok hP (by subst hv; exact ⟨hn, hk⟩)
theorem ty_dupI (ok : zOKr M tb R d P) {x : Int32} (hP : P pc = oDup nx) (hk : zGy E M tb R Z nx (ls, .int x :: .int x :: st, σ, bc, bs)) : zGy E M tb R Z pc (ls, .int x :: st, σ, bc, bs) := zstepy ok hP hk
theorem ty_dupA (ok : zOKr M tb R d P) {x : Nat} (hP : P pc = oDup nx) (hk : zGy E M tb R Z nx (ls, .ref x :: .ref x :: st, σ, bc, bs)) : zGy E M tb R Z pc (ls, .ref x :: st, σ, bc, bs) := zstepy ok hP hk
theorem ty_dup2 (ok : zOKr M tb R d P) {x : Nat} {y : Int32} (hP : P pc = oDup2 nx) (hk : zGy E M tb R Z nx (ls, .int y :: .ref x :: .int y :: .ref x :: st, σ, bc, bs)) : zGy E M tb R Z pc (ls, .int y :: .ref x :: st, σ, bc, bs) := zstepy ok hP hk
theorem ty_popI (ok : zOKr M tb R d P) {x : Int32} (hP : P pc = oPop nx) (hk : zGy E M tb R Z nx (ls, st, σ, bc, bs)) : zGy E M tb R Z pc (ls, .int x :: st, σ, bc, bs) := zstepy ok hP hk
theorem ty_popA (ok : zOKr M tb R d P) {x : Nat} (hP : P pc = oPop nx) (hk : zGy E M tb R Z nx (ls, st, σ, bc, bs)) : zGy E M tb R Z pc (ls, .ref x :: st, σ, bc, bs) := zstepy ok hP hk
theorem ty_goto (ok : zOKr M tb R d P) (hP : P pc = oGoto tg) (hk : zGy E M tb R Z tg (ls, st, σ, bc, bs)) : zGy E M tb R Z pc (ls, st, σ, bc, bs) := zstepy ok hP hk
theorem ty_nullN (ok : zOKr M tb R d P) (hP : P pc = oIfNull tg nx) (hk : zGy E M tb R Z tg (ls, st, σ, bc, bs)) : zGy E M tb R Z pc (ls, .null :: st, σ, bc, bs) := zstepy ok hP hk
theorem ty_nullR (ok : zOKr M tb R d P) {x : Nat} (hP : P pc = oIfNull tg nx) (hk : zGy E M tb R Z nx (ls, st, σ, bc, bs)) : zGy E M tb R Z pc (ls, .ref x :: st, σ, bc, bs) := zstepy ok hP hk
theorem ty_if_eq (ok : zOKr M tb R d P) {a : Int} (hP : P pc = oIf (fun x => x = 0) tg nx) (ha : zb a) (ht : a = 0 → zGy E M tb R Z tg (ls, st, σ, bc, bs)) (hf : ¬ a = 0 → zGy E M tb R Z nx (ls, st, σ, bc, bs)) : zGy E M tb R Z pc (ls, .int (iI a) :: st, σ, bc, bs) := by
  have z0 : zb 0 := ⟨by omega, by omega⟩
  refine zstepy ok hP ⟨fun q => ht ?_, fun q => hf ?_⟩
  · dsimp only at q; rw [iI_0] at q; exact (iI_eq ha z0).mp q
  · dsimp only at q; rw [iI_0, iI_eq ha z0] at q; omega
theorem ty_if_lt (ok : zOKr M tb R d P) {a : Int} (hP : P pc = oIf (fun x => x < 0) tg nx) (ha : zb a) (ht : a < 0 → zGy E M tb R Z tg (ls, st, σ, bc, bs)) (hf : 0 ≤ a → zGy E M tb R Z nx (ls, st, σ, bc, bs)) : zGy E M tb R Z pc (ls, .int (iI a) :: st, σ, bc, bs) := by
  have z0 : zb 0 := ⟨by omega, by omega⟩
  refine zstepy ok hP ⟨fun q => ht ?_, fun q => hf ?_⟩
  · dsimp only at q; rw [iI_0] at q; exact (iI_lt ha z0).mp q
  · dsimp only at q; rw [iI_0, iI_lt ha z0] at q; omega
theorem ty_if_ge (ok : zOKr M tb R d P) {a : Int} (hP : P pc = oIf (fun x => 0 ≤ x) tg nx) (ha : zb a) (ht : 0 ≤ a → zGy E M tb R Z tg (ls, st, σ, bc, bs)) (hf : a < 0 → zGy E M tb R Z nx (ls, st, σ, bc, bs)) : zGy E M tb R Z pc (ls, .int (iI a) :: st, σ, bc, bs) := by
  have z0 : zb 0 := ⟨by omega, by omega⟩
  refine zstepy ok hP ⟨fun q => ht ?_, fun q => hf ?_⟩
  · dsimp only at q; rw [iI_0] at q; exact (iI_le z0 ha).mp q
  · dsimp only at q; rw [iI_0, iI_le z0 ha] at q; omega
theorem ty_if_gt (ok : zOKr M tb R d P) {a : Int} (hP : P pc = oIf (fun x => 0 < x) tg nx) (ha : zb a) (ht : 0 < a → zGy E M tb R Z tg (ls, st, σ, bc, bs)) (hf : a ≤ 0 → zGy E M tb R Z nx (ls, st, σ, bc, bs)) : zGy E M tb R Z pc (ls, .int (iI a) :: st, σ, bc, bs) := by
  have z0 : zb 0 := ⟨by omega, by omega⟩
  refine zstepy ok hP ⟨fun q => ht ?_, fun q => hf ?_⟩
  · dsimp only at q; rw [iI_0] at q; exact (iI_lt z0 ha).mp q
  · dsimp only at q; rw [iI_0, iI_lt z0 ha] at q; omega
theorem ty_if_le (ok : zOKr M tb R d P) {a : Int} (hP : P pc = oIf (fun x => x ≤ 0) tg nx) (ha : zb a) (ht : a ≤ 0 → zGy E M tb R Z tg (ls, st, σ, bc, bs)) (hf : 0 < a → zGy E M tb R Z nx (ls, st, σ, bc, bs)) : zGy E M tb R Z pc (ls, .int (iI a) :: st, σ, bc, bs) := by
  have z0 : zb 0 := ⟨by omega, by omega⟩
  refine zstepy ok hP ⟨fun q => ht ?_, fun q => hf ?_⟩
  · dsimp only at q; rw [iI_0] at q; exact (iI_le ha z0).mp q
  · dsimp only at q; rw [iI_0, iI_le ha z0] at q; omega
theorem ty_c_eq (ok : zOKr M tb R d P) {a b : Int} (hP : P pc = oCmp (fun x y => x = y) tg nx) (ha : zb a) (hb : zb b) (ht : a = b → zGy E M tb R Z tg (ls, st, σ, bc, bs)) (hf : ¬ a = b → zGy E M tb R Z nx (ls, st, σ, bc, bs)) : zGy E M tb R Z pc (ls, .int (iI b) :: .int (iI a) :: st, σ, bc, bs) := by
  refine zstepy ok hP ⟨fun q => ht ?_, fun q => hf ?_⟩
  · dsimp only at q; exact (iI_eq ha hb).mp q
  · dsimp only at q; rw [iI_eq ha hb] at q; omega
theorem ty_c_lt (ok : zOKr M tb R d P) {a b : Int} (hP : P pc = oCmp (fun x y => x < y) tg nx) (ha : zb a) (hb : zb b) (ht : a < b → zGy E M tb R Z tg (ls, st, σ, bc, bs)) (hf : b ≤ a → zGy E M tb R Z nx (ls, st, σ, bc, bs)) : zGy E M tb R Z pc (ls, .int (iI b) :: .int (iI a) :: st, σ, bc, bs) := by
  refine zstepy ok hP ⟨fun q => ht ?_, fun q => hf ?_⟩
  · dsimp only at q; exact (iI_lt ha hb).mp q
  · dsimp only at q; rw [iI_lt ha hb] at q; omega
theorem ty_c_ge (ok : zOKr M tb R d P) {a b : Int} (hP : P pc = oCmp (fun x y => y ≤ x) tg nx) (ha : zb a) (hb : zb b) (ht : b ≤ a → zGy E M tb R Z tg (ls, st, σ, bc, bs)) (hf : a < b → zGy E M tb R Z nx (ls, st, σ, bc, bs)) : zGy E M tb R Z pc (ls, .int (iI b) :: .int (iI a) :: st, σ, bc, bs) := by
  refine zstepy ok hP ⟨fun q => ht ?_, fun q => hf ?_⟩
  · dsimp only at q; exact (iI_le hb ha).mp q
  · dsimp only at q; rw [iI_le hb ha] at q; omega
theorem ty_c_gt (ok : zOKr M tb R d P) {a b : Int} (hP : P pc = oCmp (fun x y => y < x) tg nx) (ha : zb a) (hb : zb b) (ht : b < a → zGy E M tb R Z tg (ls, st, σ, bc, bs)) (hf : a ≤ b → zGy E M tb R Z nx (ls, st, σ, bc, bs)) : zGy E M tb R Z pc (ls, .int (iI b) :: .int (iI a) :: st, σ, bc, bs) := by
  refine zstepy ok hP ⟨fun q => ht ?_, fun q => hf ?_⟩
  · dsimp only at q; exact (iI_lt hb ha).mp q
  · dsimp only at q; rw [iI_lt hb ha] at q; omega
theorem ty_c_le (ok : zOKr M tb R d P) {a b : Int} (hP : P pc = oCmp (fun x y => x ≤ y) tg nx) (ha : zb a) (hb : zb b) (ht : a ≤ b → zGy E M tb R Z tg (ls, st, σ, bc, bs)) (hf : b < a → zGy E M tb R Z nx (ls, st, σ, bc, bs)) : zGy E M tb R Z pc (ls, .int (iI b) :: .int (iI a) :: st, σ, bc, bs) := by
  refine zstepy ok hP ⟨fun q => ht ?_, fun q => hf ?_⟩
  · dsimp only at q; exact (iI_le ha hb).mp q
  · dsimp only at q; rw [iI_le ha hb] at q; omega
theorem ty_getI (ok : zOKr M tb R d P) {x i c L : Nat} {cis : List Nat} (hP : P pc = oGetI i cis nx) (hq : zk σ x = (c, L)) (hm : zmem c cis = true) (hk : zGy E M tb R Z nx (ls, .int (zi σ x i) :: st, σ, bc, bs)) : zGy E M tb R Z pc (ls, .ref x :: st, σ, bc, bs) := zstepy ok hP ⟨_, hq, hm, hk⟩
theorem ty_getR (ok : zOKr M tb R d P) {x i c L v : Nat} {cis : List Nat} (hP : P pc = oGetR i cis nx) (hq : zk σ x = (c, L)) (hm : zmem c cis = true) (hv : zr σ x i = some v) (hk : zGy E M tb R Z nx (ls, .ref v :: st, σ, bc, bs)) : zGy E M tb R Z pc (ls, .ref x :: st, σ, bc, bs) := zstepy ok hP ⟨_, hq, hm, _, hv, hk⟩
theorem ty_getJ (j : Int) (ok : zOKr M tb R d P) {x i c L : Nat} {cis : List Nat} (hP : P pc = oGetI i cis nx) (hq : zkF k x = (c, L)) (hm : zmem c cis = true) (hj : (i : Int) = j) (hk : zGy E M tb R Z nx (ls, .int (iI (h x j)) :: st, zJ (k, h, r, l, n), bc, bs)) : zGy E M tb R Z pc (ls, .ref x :: st, zJ (k, h, r, l, n), bc, bs) := zstepy ok hP ⟨_, hq, hm, by subst hj; exact hk⟩
theorem ty_getF (ok : zOKr M tb R d P) {x i c L v : Nat} {cis : List Nat} (hP : P pc = oGetR i cis nx) (hq : zkF k x = (c, L)) (hm : zmem c cis = true) (hv : zrF r x i = some v) (hk : zGy E M tb R Z nx (ls, .ref v :: st, zJ (k, h, r, l, n), bc, bs)) : zGy E M tb R Z pc (ls, .ref x :: st, zJ (k, h, r, l, n), bc, bs) := zstepy ok hP ⟨_, hq, hm, _, hv, hk⟩
theorem ty_putJ (j : Int) (ok : zOKr M tb R d P) {x i c L : Nat} {a : Int} {z : Bool} {cis : List Nat} (hP : P pc = oPutI i z cis nx) (hq : zkF k x = (c, L)) (hm : zmem c cis = true) (hj : (i : Int) = j) (hz : z = true → iI a = 0 ∨ iI a = 1) (hk : zGy E M tb R Z nx (ls, st, zJ (k, zv h x j a, r, l, n), bc, bs)) : zGy E M tb R Z pc (ls, .int (iI a) :: .ref x :: st, zJ (k, h, r, l, n), bc, bs) := by
  subst hj
  refine zstepy ok hP ⟨_, hq, hm, hz, ?_⟩
  dsimp only
  rw [zJ_I]
  exact hk
theorem ty_iald (ok : zOKr M tb R d P) {x L t : Nat} {a : Int} (hP : P pc = oIald t nx) (hq : zkF k x = (t, L)) (hL : Nat.ble L 100000 = true) (h0 : 0 ≤ a) (h1 : a < L) (hk : zGy E M tb R Z nx (ls, .int (iI (h x a)) :: st, zJ (k, h, r, l, n), bc, bs)) : zGy E M tb R Z pc (ls, .int (iI a) :: .ref x :: st, zJ (k, h, r, l, n), bc, bs) := by
  obtain ⟨e1, e2, e3⟩ := zix9 h0 h1
  refine zstepy ok hP ⟨a.toNat, L, hq, Nat.le_of_ble_eq_true hL, e1, e2, ?_⟩
  show zGy E M tb R Z nx (ls, .int (iI (h x ((a.toNat : Nat) : Int))) :: st, zJ (k, h, r, l, n), bc, bs)
  rw [e3]
  exact hk
theorem ty_iast (ok : zOKr M tb R d P) {x L t : Nat} {a v : Int} {z : Bool} (hP : P pc = oIast t z nx) (hq : zkF k x = (t, L)) (hL : Nat.ble L 100000 = true) (h0 : 0 ≤ a) (h1 : a < L) (hz : z = true → iI v = 0 ∨ iI v = 1) (hk : zGy E M tb R Z nx (ls, st, zJ (k, zv h x a v, r, l, n), bc, bs)) : zGy E M tb R Z pc (ls, .int (iI v) :: .int (iI a) :: .ref x :: st, zJ (k, h, r, l, n), bc, bs) := by
  obtain ⟨e1, e2, e3⟩ := zix9 h0 h1
  refine zstepy ok hP ⟨a.toNat, L, hq, Nat.le_of_ble_eq_true hL, e1, e2, hz, ?_⟩
  dsimp only
  rw [zJ_I, e3]
  exact hk
theorem ty_aald (ok : zOKr M tb R d P) {x L t v : Nat} {a : Int} (hP : P pc = oAald t nx) (hq : zkF k x = (t, L)) (hL : Nat.ble L 100000 = true) (hx : zfin x = false) (h0 : 0 ≤ a) (h1 : a < L) (hv : r x a = some v) (hk : zGy E M tb R Z nx (ls, .ref v :: st, zJ (k, h, r, l, n), bc, bs)) : zGy E M tb R Z pc (ls, .int (iI a) :: .ref x :: st, zJ (k, h, r, l, n), bc, bs) := by
  obtain ⟨e1, e2, e3⟩ := zix9 h0 h1
  refine zstepy ok hP ⟨a.toNat, L, hq, Nat.le_of_ble_eq_true hL, e1, e2, some v, ?_, hk⟩
  show cond (zfin x) _ (r x ((a.toNat : Nat) : Int)) = _
  rw [hx, e3]
  exact hv
theorem ty_aaldN (ok : zOKr M tb R d P) {x L t : Nat} {a : Int} (hP : P pc = oAald t nx) (hq : zkF k x = (t, L)) (hL : Nat.ble L 100000 = true) (hx : zfin x = false) (h0 : 0 ≤ a) (h1 : a < L) (hv : r x a = none) (hk : zGy E M tb R Z nx (ls, .null :: st, zJ (k, h, r, l, n), bc, bs)) : zGy E M tb R Z pc (ls, .int (iI a) :: .ref x :: st, zJ (k, h, r, l, n), bc, bs) := by
  obtain ⟨e1, e2, e3⟩ := zix9 h0 h1
  refine zstepy ok hP ⟨a.toNat, L, hq, Nat.le_of_ble_eq_true hL, e1, e2, none, ?_, hk⟩
  show cond (zfin x) _ (r x ((a.toNat : Nat) : Int)) = _
  rw [hx, e3]
  exact hv
theorem ty_aast (ok : zOKr M tb R d P) {x L t v c Lc : Nat} {a : Int} {cis : List Nat} (hP : P pc = oAast t cis nx) (hq : zkF k x = (t, L)) (hL : Nat.ble L 100000 = true) (hx : zfin x = false) (h0 : 0 ≤ a) (h1 : a < L) (hv : zkF k v = (c, Lc)) (hm : zmem c cis = true) (hk : zGy E M tb R Z nx (ls, st, zJ (k, h, zv r x a (some v), l, n), bc, bs)) : zGy E M tb R Z pc (ls, .ref v :: .int (iI a) :: .ref x :: st, zJ (k, h, r, l, n), bc, bs) := by
  obtain ⟨e1, e2, e3⟩ := zix9 h0 h1
  refine zstepy ok hP ⟨a.toNat, L, _, hq, Nat.le_of_ble_eq_true hL, e1, e2, hv, hm, ?_⟩
  dsimp only
  rw [zJ_R hx, e3]
  exact hk
theorem ty_aastN (ok : zOKr M tb R d P) {x L t : Nat} {a : Int} {cis : List Nat} (hP : P pc = oAast t cis nx) (hq : zkF k x = (t, L)) (hL : Nat.ble L 100000 = true) (hx : zfin x = false) (h0 : 0 ≤ a) (h1 : a < L) (hk : zGy E M tb R Z nx (ls, st, zJ (k, h, zv r x a none, l, n), bc, bs)) : zGy E M tb R Z pc (ls, .null :: .int (iI a) :: .ref x :: st, zJ (k, h, r, l, n), bc, bs) := by
  obtain ⟨e1, e2, e3⟩ := zix9 h0 h1
  refine zstepy ok hP ⟨a.toNat, L, hq, Nat.le_of_ble_eq_true hL, e1, e2, ?_⟩
  dsimp only
  rw [zJ_R hx, e3]
  exact hk
theorem ty_alen (ok : zOKr M tb R d P) {x L t : Nat} (hP : P pc = oAlen t nx) (hq : zkF k x = (t, L)) (hk : zGy E M tb R Z nx (ls, .int (iI L) :: st, zJ (k, h, r, l, n), bc, bs)) : zGy E M tb R Z pc (ls, .ref x :: st, zJ (k, h, r, l, n), bc, bs) := zstepy ok hP ⟨L, hq, by rw [iI_nat]; exact hk⟩
theorem ty_gets (ok : zOKr M tb R d P) {i : Nat} (hP : P pc = oGetS i nx) (hk : zGy E M tb R Z nx (ls, .ref i :: st, σ, bc, bs)) : zGy E M tb R Z pc (ls, st, σ, bc, bs) := zstepy ok hP hk
theorem ty_max (ok : zOKr M tb R d P) {e9 : Nat} {a b : Int} (hd : d = e9 + 1) (hP : P pc = oMax nx) (hc : Nat.ble (zcat st) 8 = true) (ha : zb a) (hb : zb b) (hk : zGy E M tb R Z nx (ls, .int (iI (if a < b then b else a)) :: st, σ, bc, bs)) : zGy E M tb R Z pc (ls, .int (iI b) :: .int (iI a) :: st, σ, bc, bs) := by
  subst hd
  refine zstepy ok hP ?_
  show (match Nat.ble (zcat st) 8 with | true => _ | false => _)
  rw [hc]
  show zGy E M tb R Z nx (ls, .int (if iI a < iI b then iI b else iI a) :: st, σ, bc, bs)
  by_cases q : a < b
  · rw [if_pos ((iI_lt ha hb).mpr q)]; rw [if_pos q] at hk; exact hk
  · rw [if_neg (fun z => q ((iI_lt ha hb).mp z))]; rw [if_neg q] at hk; exact hk
theorem ty_min (ok : zOKr M tb R d P) {e9 : Nat} {a b : Int} (hd : d = e9 + 1) (hP : P pc = oMin nx) (hc : Nat.ble (zcat st) 8 = true) (ha : zb a) (hb : zb b) (hk : zGy E M tb R Z nx (ls, .int (iI (if b < a then b else a)) :: st, σ, bc, bs)) : zGy E M tb R Z pc (ls, .int (iI b) :: .int (iI a) :: st, σ, bc, bs) := by
  subst hd
  refine zstepy ok hP ?_
  show (match Nat.ble (zcat st) 8 with | true => _ | false => _)
  rw [hc]
  show zGy E M tb R Z nx (ls, .int (if iI b < iI a then iI b else iI a) :: st, σ, bc, bs)
  by_cases q : b < a
  · rw [if_pos ((iI_lt hb ha).mpr q)]; rw [if_pos q] at hk; exact hk
  · rw [if_neg (fun z => q ((iI_lt hb ha).mp z))]; rw [if_neg q] at hk; exact hk
theorem ty_callS (ok : zOKr M tb R d P) {e9 na : Nat} {M' : zM} {v : Value} {σ' : zS} {as rest : List Value} (hd : d = e9 + 1) (hP : P pc = oCallS na M' nx) (hp : zpop na [] st = some (as, rest)) (hc : Nat.ble (zcat rest) 8 = true) (hM : zCT E e9 M' as σ 0 0 (zV v σ')) (hk : zGy E M tb R Z nx (ls, v :: rest, σ', bc, bs)) : zGy E M tb R Z pc (ls, st, σ, bc, bs) := by
  subst hd
  refine zstepy ok hP ?_
  dsimp only [oCallS]
  rw [hp]
  dsimp only
  rw [hc]
  exact ⟨0, 0, _, Nat.zero_le _, Nat.zero_le _, hM, fun q s ⟨e1, e2⟩ => by subst e1; subst e2; exact hk⟩
theorem ty_callSv (ok : zOKr M tb R d P) {e9 na : Nat} {M' : zM} {σ' : zS} {as rest : List Value} (hd : d = e9 + 1) (hP : P pc = oCallS na M' nx) (hp : zpop na [] st = some (as, rest)) (hc : Nat.ble (zcat rest) 8 = true) (hM : zCT E e9 M' as σ 0 0 (zU σ')) (hk : zGy E M tb R Z nx (ls, rest, σ', bc, bs)) : zGy E M tb R Z pc (ls, st, σ, bc, bs) := by
  subst hd
  refine zstepy ok hP ?_
  dsimp only [oCallS]
  rw [hp]
  dsimp only
  rw [hc]
  exact ⟨0, 0, _, Nat.zero_le _, Nat.zero_le _, hM, fun q s ⟨e1, e2⟩ => by subst e1; subst e2; exact hk⟩
theorem ty_callV (ok : zOKr M tb R d P) {e9 na x c L : Nat} {tgs : List (Nat × zM)} {M' : zM} {v : Value} {σ' : zS} {as rest : List Value} (hd : d = e9 + 1) (hP : P pc = oCallV na tgs nx) (hp : zpop na [] st = some (as, .ref x :: rest)) (hc : Nat.ble (zcat rest) 8 = true) (hq : zk σ x = (c, L)) (hf : zfind tgs c = some M') (hM : zCT E e9 M' (.ref x :: as) σ 0 0 (zV v σ')) (hk : zGy E M tb R Z nx (ls, v :: rest, σ', bc, bs)) : zGy E M tb R Z pc (ls, st, σ, bc, bs) := by
  subst hd
  refine zstepy ok hP ?_
  dsimp only [oCallV]
  rw [hp]
  dsimp only
  rw [hc]
  exact ⟨_, _, hq, hf, 0, 0, _, Nat.zero_le _, Nat.zero_le _, hM, fun q s ⟨e1, e2⟩ => by subst e1; subst e2; exact hk⟩
theorem ty_callVv (ok : zOKr M tb R d P) {e9 na x c L : Nat} {tgs : List (Nat × zM)} {M' : zM} {σ' : zS} {as rest : List Value} (hd : d = e9 + 1) (hP : P pc = oCallV na tgs nx) (hp : zpop na [] st = some (as, .ref x :: rest)) (hc : Nat.ble (zcat rest) 8 = true) (hq : zk σ x = (c, L)) (hf : zfind tgs c = some M') (hM : zCT E e9 M' (.ref x :: as) σ 0 0 (zU σ')) (hk : zGy E M tb R Z nx (ls, rest, σ', bc, bs)) : zGy E M tb R Z pc (ls, st, σ, bc, bs) := by
  subst hd
  refine zstepy ok hP ?_
  dsimp only [oCallV]
  rw [hp]
  dsimp only
  rw [hc]
  exact ⟨_, _, hq, hf, 0, 0, _, Nat.zero_le _, Nat.zero_le _, hM, fun q s ⟨e1, e2⟩ => by subst e1; subst e2; exact hk⟩
theorem ty_callU (ok : zOKr M tb R d P) {e9 na x c L : Nat} {M' : zM} {v : Value} {σ' : zS} {as rest : List Value} (hd : d = e9 + 1) (hP : P pc = oCallU na M' nx) (hp : zpop na [] st = some (as, .ref x :: rest)) (hc : Nat.ble (zcat rest) 8 = true) (hq : zk σ x = (c, L)) (hf : Nat.blt c 16 = true) (hM : zCT E e9 M' (.ref x :: as) σ 0 0 (zV v σ')) (hk : zGy E M tb R Z nx (ls, v :: rest, σ', bc, bs)) : zGy E M tb R Z pc (ls, st, σ, bc, bs) := by
  subst hd
  refine zstepy ok hP ?_
  dsimp only [oCallU]
  rw [hp]
  dsimp only
  rw [hc]
  exact ⟨_, hq, Nat.le_of_ble_eq_true hf, 0, 0, _, Nat.zero_le _, Nat.zero_le _, hM, fun q s ⟨e1, e2⟩ => by subst e1; subst e2; exact hk⟩
theorem ty_sw (ok : zOKr M tb R d P) {x : Int32} {ps : List (Int32 × Nat)} {d9 : Nat} (hP : P pc = oSw ps d9) (hk : zsw x d9 (fun t => zGy E M tb R Z t (ls, st, σ, bc, bs)) ps) : zGy E M tb R Z pc (ls, .int x :: st, σ, bc, bs) := zstepy ok hP hk
theorem ty_callVx (ok : zOKr M tb R d P) {e9 na x c L : Nat} {tgs : List (Nat × zM)} {M' : zM} {v : Value} {F : zS → Prop} {as rest : List Value} (hd : d = e9 + 1) (hP : P pc = oCallV na tgs nx) (hp : zpop na [] st = some (as, .ref x :: rest)) (hc : Nat.ble (zcat rest) 8 = true) (hq : zk σ x = (c, L)) (hf : zfind tgs c = some M') (hM : zCT E e9 M' (.ref x :: as) σ 0 0 (zVx v F)) (hk : ∀ σ', F σ' → zGy E M tb R Z nx (ls, v :: rest, σ', bc, bs)) : zGy E M tb R Z pc (ls, st, σ, bc, bs) := by
  subst hd
  refine zstepy ok hP ?_
  dsimp only [oCallV]
  rw [hp]
  dsimp only
  rw [hc]
  exact ⟨_, _, hq, hf, 0, 0, _, Nat.zero_le _, Nat.zero_le _, hM, fun q s ⟨e1, e2⟩ => by subst e1; exact hk s e2⟩
theorem ty_callVvx (ok : zOKr M tb R d P) {e9 na x c L : Nat} {tgs : List (Nat × zM)} {M' : zM} {F : zS → Prop} {as rest : List Value} (hd : d = e9 + 1) (hP : P pc = oCallV na tgs nx) (hp : zpop na [] st = some (as, .ref x :: rest)) (hc : Nat.ble (zcat rest) 8 = true) (hq : zk σ x = (c, L)) (hf : zfind tgs c = some M') (hM : zCT E e9 M' (.ref x :: as) σ 0 0 (zUx F)) (hk : ∀ σ', F σ' → zGy E M tb R Z nx (ls, rest, σ', bc, bs)) : zGy E M tb R Z pc (ls, st, σ, bc, bs) := by
  subst hd
  refine zstepy ok hP ?_
  dsimp only [oCallV]
  rw [hp]
  dsimp only
  rw [hc]
  exact ⟨_, _, hq, hf, 0, 0, _, Nat.zero_le _, Nat.zero_le _, hM, fun q s ⟨e1, e2⟩ => by subst e1; exact hk s e2⟩
theorem ty_newJ (ok : zOKr M tb R d P) {ci N : Nat} (hn : 87 ≤ n) (hP : P pc = oNew ci N nx) (h1 : 1 ≤ bc) (h2 : N ≤ bs) (hk : zGy E M tb R Z nx (ls, .ref n :: st, zJ (kN' k n (ci, N), hN' h n 0, hN' r n none, hN' l n 0, n + 1), bc - 1, bs - N)) : zGy E M tb R Z pc (ls, st, zJ (k, h, r, l, n), bc, bs) := by
  refine zstepy ok hP ⟨h1, h2, ?_⟩
  have e : zNew (zJ (k, h, r, l, n)) (ci, N) = zJ (kN' k n (ci, N), hN' h n 0, hN' r n none, hN' l n 0, n + 1) := by
    show ((fun a => if a = n then (ci, N) else zkF k a), (fun (a j : Nat) => if a = n then (0 : Int32) else iI (h a (j : Int))), (fun (a j : Nat) => if a = n then none else zrF r a j), (fun (a j : Nat) => if a = n then (0 : Int64) else l a j), n + 1) = (zkF (kN' k n (ci, N)), (fun (a j : Nat) => iI (hN' h n 0 a (j : Int))), zrF (hN' r n none), hN' l n 0, n + 1)
    have e1 : (fun a => if a = n then (ci, N) else zkF k a) = zkF (kN' k n (ci, N)) := funext fun a => (zkF_N hn a).symm
    have e2 : (fun (a : Nat) (j : Nat) => if a = n then (0 : Int32) else iI (h a (j : Int))) = fun (a j : Nat) => iI (hN' h n 0 a (j : Int)) := by
      funext a j
      unfold hN'
      by_cases e : a = n
      · rw [if_pos e, if_pos e]; exact iI_0
      · rw [if_neg e, if_neg e]
    have e3 : (fun (a : Nat) (j : Nat) => if a = n then none else zrF r a j) = zrF (hN' r n none) := by
      funext a j
      exact (zrF_N hn a j).symm
    rw [e1, e2, e3]
    rfl
  show zGy E M tb R Z nx (ls, .ref n :: st, zNew (zJ (k, h, r, l, n)) (ci, N), bc - 1, bs - N)
  rw [e]
  exact hk
theorem ty_newAJ (ok : zOKr M tb R d P) {t : Nat} {N : Int} (hn : 87 ≤ n) (hP : P pc = oNewA t nx) (n0 : 0 ≤ N) (n1 : N ≤ 100000) (h1 : 1 ≤ bc) (h2 : N.toNat ≤ bs) (hk : zGy E M tb R Z nx (ls, .ref n :: st, zJ (kN' k n (t, N.toNat), hN' h n 0, hN' r n none, hN' l n 0, n + 1), bc - 1, bs - N.toNat)) : zGy E M tb R Z pc (ls, .int (iI N) :: st, zJ (k, h, r, l, n), bc, bs) := by
  refine zstepy ok hP ⟨N.toNat, by rw [iI_nat]; congr 1; omega, by omega, h1, h2, ?_⟩
  have e : zNew (zJ (k, h, r, l, n)) (t, N.toNat) = zJ (kN' k n (t, N.toNat), hN' h n 0, hN' r n none, hN' l n 0, n + 1) := by
    show ((fun a => if a = n then (t, N.toNat) else zkF k a), (fun (a j : Nat) => if a = n then (0 : Int32) else iI (h a (j : Int))), (fun (a j : Nat) => if a = n then none else zrF r a j), (fun (a j : Nat) => if a = n then (0 : Int64) else l a j), n + 1) = (zkF (kN' k n (t, N.toNat)), (fun (a j : Nat) => iI (hN' h n 0 a (j : Int))), zrF (hN' r n none), hN' l n 0, n + 1)
    have e1 : (fun a => if a = n then (t, N.toNat) else zkF k a) = zkF (kN' k n (t, N.toNat)) := funext fun a => (zkF_N hn a).symm
    have e2 : (fun (a : Nat) (j : Nat) => if a = n then (0 : Int32) else iI (h a (j : Int))) = fun (a j : Nat) => iI (hN' h n 0 a (j : Int)) := by
      funext a j
      unfold hN'
      by_cases e : a = n
      · rw [if_pos e, if_pos e]; exact iI_0
      · rw [if_neg e, if_neg e]
    have e3 : (fun (a : Nat) (j : Nat) => if a = n then none else zrF r a j) = zrF (hN' r n none) := by
      funext a j
      exact (zrF_N hn a j).symm
    rw [e1, e2, e3]
    rfl
  show zGy E M tb R Z nx (ls, .ref n :: st, zNew (zJ (k, h, r, l, n)) (t, N.toNat), bc - 1, bs - N.toNat)
  rw [e]
  exact hk
theorem ty_obj (ok : zOKr M tb R d P) {e9 x : Nat} (hd : d = e9 + 1) (hP : P pc = oObj nx) (hc : Nat.ble (zcat st) 8 = true) (hk : zGy E M tb R Z nx (ls, st, σ, bc, bs)) : zGy E M tb R Z pc (ls, .ref x :: st, σ, bc, bs) := by
  subst hd
  refine zstepy ok hP ?_
  show (match Nat.ble (zcat st) 8 with | true => _ | false => _)
  rw [hc]
  exact hk
theorem ty_callO (ok : zOKr M tb R d P) {e9 na x mc' ms' : Nat} {M' : zM} {F : zS → Prop} {as rest : List Value} (hd : d = e9 + 1) (hP : P pc = oCallO na M' nx) (hp : zpop na [] st = some (as, .ref x :: rest)) (hc : Nat.ble (zcat rest) 8 = true) (hM : zCT E e9 M' (.ref x :: as) σ mc' ms' (zUx F)) (h1 : mc' ≤ bc) (h2 : ms' ≤ bs) (hk : ∀ σ', F σ' → zGy E M tb R Z nx (ls, rest, σ', bc - mc', bs - ms')) : zGy E M tb R Z pc (ls, st, σ, bc, bs) := by
  subst hd
  refine zstepy ok hP ?_
  dsimp only [oCallO]
  rw [hp]
  dsimp only
  rw [hc]
  exact ⟨mc', ms', _, h1, h2, hM, fun q s ⟨e1, e2⟩ => by subst e1; exact hk s e2⟩
theorem ty_callSg (ok : zOKr M tb R d P) {e9 na mc' ms' : Nat} {M' : zM} {v : Value} {F : zS → Prop} {as rest : List Value} (hd : d = e9 + 1) (hP : P pc = oCallS na M' nx) (hp : zpop na [] st = some (as, rest)) (hc : Nat.ble (zcat rest) 8 = true) (hM : zCT E e9 M' as σ mc' ms' (zVx v F)) (h1 : mc' ≤ bc) (h2 : ms' ≤ bs) (hk : ∀ σ', F σ' → zGy E M tb R Z nx (ls, v :: rest, σ', bc - mc', bs - ms')) : zGy E M tb R Z pc (ls, st, σ, bc, bs) := by
  subst hd
  refine zstepy ok hP ?_
  dsimp only [oCallS]
  rw [hp]
  dsimp only
  rw [hc]
  exact ⟨mc', ms', _, h1, h2, hM, fun q s ⟨e1, e2⟩ => by subst e1; exact hk s e2⟩
theorem ty_callVg (ok : zOKr M tb R d P) {e9 na x c L mc' ms' : Nat} {tgs : List (Nat × zM)} {M' : zM} {v : Value} {F : zS → Prop} {as rest : List Value} (hd : d = e9 + 1) (hP : P pc = oCallV na tgs nx) (hp : zpop na [] st = some (as, .ref x :: rest)) (hc : Nat.ble (zcat rest) 8 = true) (hq : zk σ x = (c, L)) (hf : zfind tgs c = some M') (hM : zCT E e9 M' (.ref x :: as) σ mc' ms' (zVx v F)) (h1 : mc' ≤ bc) (h2 : ms' ≤ bs) (hk : ∀ σ', F σ' → zGy E M tb R Z nx (ls, v :: rest, σ', bc - mc', bs - ms')) : zGy E M tb R Z pc (ls, st, σ, bc, bs) := by
  subst hd
  refine zstepy ok hP ?_
  dsimp only [oCallV]
  rw [hp]
  dsimp only
  rw [hc]
  exact ⟨_, _, hq, hf, mc', ms', _, h1, h2, hM, fun q s ⟨e1, e2⟩ => by subst e1; exact hk s e2⟩
end ZT
