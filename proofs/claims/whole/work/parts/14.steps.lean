/-! The steps in whole numbers: a state zJ (kinds, numbers, references, longs, how many), with the fixed cells laid out by a table -/
def zKt (n : Nat) : Nat × Nat := (cond (Nat.ble n 44) (cond (Nat.ble n 23) (cond (Nat.ble n 13) (cond (Nat.ble n 8) (cond (Nat.ble n 5) (cond (Nat.ble n 4) (cond (Nat.ble n 3) (11, 9) (3, 11)) (19, 8)) (cond (Nat.ble n 7) (cond (Nat.ble n 6) (16, 8) (16, 8)) (16, 8))) (cond (Nat.ble n 11) (cond (Nat.ble n 10) (cond (Nat.ble n 9) (16, 4) (16, 4)) (17, 4)) (cond (Nat.ble n 12) (16, 4) (16, 4)))) (cond (Nat.ble n 18) (cond (Nat.ble n 16) (cond (Nat.ble n 15) (cond (Nat.ble n 14) (10, 2) (3, 11)) (19, 8)) (cond (Nat.ble n 17) (16, 8) (16, 8))) (cond (Nat.ble n 21) (cond (Nat.ble n 20) (cond (Nat.ble n 19) (16, 8) (16, 4)) (16, 4)) (cond (Nat.ble n 22) (17, 4) (16, 4))))) (cond (Nat.ble n 34) (cond (Nat.ble n 29) (cond (Nat.ble n 26) (cond (Nat.ble n 25) (cond (Nat.ble n 24) (16, 4) (10, 2)) (3, 11)) (cond (Nat.ble n 28) (cond (Nat.ble n 27) (19, 8) (16, 8)) (16, 8))) (cond (Nat.ble n 32) (cond (Nat.ble n 31) (cond (Nat.ble n 30) (16, 8) (16, 4)) (16, 4)) (cond (Nat.ble n 33) (17, 4) (16, 4)))) (cond (Nat.ble n 39) (cond (Nat.ble n 37) (cond (Nat.ble n 36) (cond (Nat.ble n 35) (16, 4) (10, 2)) (9, 19)) (cond (Nat.ble n 38) (16, 8) (16, 8))) (cond (Nat.ble n 42) (cond (Nat.ble n 41) (cond (Nat.ble n 40) (16, 8) (16, 8)) (16, 8)) (cond (Nat.ble n 43) (16, 8) (16, 8)))))) (cond (Nat.ble n 65) (cond (Nat.ble n 55) (cond (Nat.ble n 50) (cond (Nat.ble n 47) (cond (Nat.ble n 46) (cond (Nat.ble n 45) (16, 8) (16, 8)) (16, 8)) (cond (Nat.ble n 49) (cond (Nat.ble n 48) (16, 8) (16, 60)) (16, 60))) (cond (Nat.ble n 53) (cond (Nat.ble n 52) (cond (Nat.ble n 51) (16, 12) (16, 12)) (16, 12)) (cond (Nat.ble n 54) (16, 12) (19, 8)))) (cond (Nat.ble n 60) (cond (Nat.ble n 58) (cond (Nat.ble n 57) (cond (Nat.ble n 56) (18, 8) (16, 9)) (16, 9)) (cond (Nat.ble n 59) (12, 37) (16, 59))) (cond (Nat.ble n 63) (cond (Nat.ble n 62) (cond (Nat.ble n 61) (16, 59) (16, 59)) (16, 12)) (cond (Nat.ble n 64) (16, 12) (16, 12))))) (cond (Nat.ble n 76) (cond (Nat.ble n 71) (cond (Nat.ble n 68) (cond (Nat.ble n 67) (cond (Nat.ble n 66) (16, 12) (16, 60)) (16, 60)) (cond (Nat.ble n 70) (cond (Nat.ble n 69) (16, 8) (16, 8)) (16, 8))) (cond (Nat.ble n 74) (cond (Nat.ble n 73) (cond (Nat.ble n 72) (16, 8) (16, 8)) (16, 8)) (cond (Nat.ble n 75) (16, 8) (16, 5)))) (cond (Nat.ble n 81) (cond (Nat.ble n 79) (cond (Nat.ble n 78) (cond (Nat.ble n 77) (16, 9) (16, 9)) (16, 8)) (cond (Nat.ble n 80) (16, 8) (16, 8))) (cond (Nat.ble n 84) (cond (Nat.ble n 83) (cond (Nat.ble n 82) (16, 8) (16, 8)) (16, 8)) (cond (Nat.ble n 85) (16, 800) (20, 1)))))))
def zRt (n j : Nat) : Option Nat := cond (Nat.beq n 3) ((cond (Nat.ble j 4) ((cond (Nat.ble j 2) ((cond (Nat.ble j 1) ((cond (Nat.ble j 0) (some 4) (some 15))) (some 26))) ((cond (Nat.ble j 3) (none) (some 37))))) ((cond (Nat.ble j 6) ((cond (Nat.ble j 5) (some 55) (some 56))) ((cond (Nat.ble j 7) (some 57) (some 58))))))) ( cond (Nat.beq n 4) ((cond (Nat.ble j 5) ((cond (Nat.ble j 2) ((cond (Nat.ble j 1) ((cond (Nat.ble j 0) (none) (some 5))) (some 6))) ((cond (Nat.ble j 4) ((cond (Nat.ble j 3) (some 7) (some 8))) (none))))) ((cond (Nat.ble j 8) ((cond (Nat.ble j 7) ((cond (Nat.ble j 6) (some 9) (some 10))) (some 11))) ((cond (Nat.ble j 9) (some 12) (some 13))))))) ( cond (Nat.beq n 15) ((cond (Nat.ble j 5) ((cond (Nat.ble j 2) ((cond (Nat.ble j 1) ((cond (Nat.ble j 0) (none) (some 16))) (some 17))) ((cond (Nat.ble j 4) ((cond (Nat.ble j 3) (some 18) (some 19))) (none))))) ((cond (Nat.ble j 8) ((cond (Nat.ble j 7) ((cond (Nat.ble j 6) (some 20) (some 21))) (some 22))) ((cond (Nat.ble j 9) (some 23) (some 24))))))) ( cond (Nat.beq n 26) ((cond (Nat.ble j 5) ((cond (Nat.ble j 2) ((cond (Nat.ble j 1) ((cond (Nat.ble j 0) (none) (some 27))) (some 28))) ((cond (Nat.ble j 4) ((cond (Nat.ble j 3) (some 29) (some 30))) (none))))) ((cond (Nat.ble j 8) ((cond (Nat.ble j 7) ((cond (Nat.ble j 6) (some 31) (some 32))) (some 33))) ((cond (Nat.ble j 9) (some 34) (some 35))))))) ( cond (Nat.beq n 37) ((cond (Nat.ble j 8) ((cond (Nat.ble j 4) ((cond (Nat.ble j 2) ((cond (Nat.ble j 1) ((cond (Nat.ble j 0) (some 38) (some 39))) (some 40))) ((cond (Nat.ble j 3) (some 41) (some 42))))) ((cond (Nat.ble j 6) ((cond (Nat.ble j 5) (some 43) (none))) ((cond (Nat.ble j 7) (some 44) (some 45))))))) ((cond (Nat.ble j 13) ((cond (Nat.ble j 11) ((cond (Nat.ble j 10) ((cond (Nat.ble j 9) (some 46) (some 47))) (some 48))) ((cond (Nat.ble j 12) (some 49) (some 50))))) ((cond (Nat.ble j 15) ((cond (Nat.ble j 14) (some 51) (some 52))) ((cond (Nat.ble j 16) (some 53) (some 54))))))))) ( cond (Nat.beq n 59) ((cond (Nat.ble j 17) ((cond (Nat.ble j 8) ((cond (Nat.ble j 4) ((cond (Nat.ble j 2) ((cond (Nat.ble j 1) ((cond (Nat.ble j 0) (some 60) (some 61))) (some 62))) ((cond (Nat.ble j 3) (none) (some 63))))) ((cond (Nat.ble j 6) ((cond (Nat.ble j 5) (some 64) (some 65))) ((cond (Nat.ble j 7) (some 66) (some 67))))))) ((cond (Nat.ble j 13) ((cond (Nat.ble j 11) ((cond (Nat.ble j 10) ((cond (Nat.ble j 9) (some 68) (some 69))) (some 70))) ((cond (Nat.ble j 12) (some 71) (some 72))))) ((cond (Nat.ble j 15) ((cond (Nat.ble j 14) (some 73) (some 74))) ((cond (Nat.ble j 16) (some 75) (none))))))))) ((cond (Nat.ble j 26) ((cond (Nat.ble j 22) ((cond (Nat.ble j 20) ((cond (Nat.ble j 19) ((cond (Nat.ble j 18) (none) (none))) (none))) ((cond (Nat.ble j 21) (none) (none))))) ((cond (Nat.ble j 24) ((cond (Nat.ble j 23) (some 76) (none))) ((cond (Nat.ble j 25) (none) (some 77))))))) ((cond (Nat.ble j 31) ((cond (Nat.ble j 29) ((cond (Nat.ble j 28) ((cond (Nat.ble j 27) (some 78) (none))) (some 79))) ((cond (Nat.ble j 30) (some 80) (some 81))))) ((cond (Nat.ble j 33) ((cond (Nat.ble j 32) (some 82) (some 83))) ((cond (Nat.ble j 34) (some 84) (some 85))))))))))) (none))))))
def zfin (n : Nat) : Bool := Nat.beq n 3 || Nat.beq n 4 || Nat.beq n 15 || Nat.beq n 26 || Nat.beq n 37 || Nat.beq n 59
abbrev zT : Type := (Nat → Nat × Nat) × (Nat → Int → Int) × (Nat → Int → Option Nat) × (Nat → Nat → Int64) × Nat
def zkF (k : Nat → Nat × Nat) (n : Nat) : Nat × Nat := cond (Nat.ble n 86 && Nat.ble 3 n) (zKt n) (k n)
def zrF (r : Nat → Int → Option Nat) (n j : Nat) : Option Nat := cond (zfin n) (zRt n j) (r n j)
def zJ (τ : zT) : zS := (zkF τ.1, fun n j => iI (τ.2.1 n j), zrF τ.2.2.1, τ.2.2.2.1, τ.2.2.2.2)
def zv {α : Type} (f : Nat → Int → α) (n : Nat) (j : Int) (v : α) : Nat → Int → α := fun a b => cond (Nat.beq a n) (if b = j then v else f a b) (f a b)
theorem zv_eq {α : Type} (f : Nat → Int → α) (n : Nat) (j : Int) (v : α) (a : Nat) (b : Int) : zv f n j v a b = if a = n ∧ b = j then v else f a b := by
  unfold zv
  cases e : Nat.beq a n
  · have : a ≠ n := Nat.ne_of_beq_eq_false e
    exact (if_neg (fun q => this q.1)).symm
  · have := Nat.eq_of_beq_eq_true e
    subst this
    by_cases q : b = j
    · exact (if_pos q).trans (if_pos ⟨rfl, q⟩).symm
    · exact (if_neg q).trans (if_neg (fun z => q z.2)).symm
/-- a number that an int can hold -/
def zb (a : Int) : Prop := -2147483648 ≤ a ∧ a < 2147483648
theorem iI_add (a b : Int) : iI a + iI b = iI (a + b) := (Int32.ofInt_add a b).symm
theorem iI_sub (a b : Int) : iI a - iI b = iI (a - b) := (Int32.ofInt_sub a b).symm
theorem iI_mul (a b : Int) : iI a * iI b = iI (a * b) := (Int32.ofInt_mul a b).symm
theorem iI_toInt {a : Int} (h : zb a) : (iI a).toInt = a := by
  unfold iI
  rw [Int32.toInt_ofInt_of_le h.1 h.2]
theorem iI_of (x : Int32) : iI x.toInt = x := Int32.ofInt_toInt x
theorem zb_of (x : Int32) : zb x.toInt := ⟨Int32.le_toInt x, Int32.toInt_lt x⟩
theorem iI_lt {a b : Int} (ha : zb a) (hb : zb b) : iI a < iI b ↔ a < b := by rw [Int32.lt_iff_toInt_lt, iI_toInt ha, iI_toInt hb]
theorem iI_le {a b : Int} (ha : zb a) (hb : zb b) : iI a ≤ iI b ↔ a ≤ b := by rw [Int32.le_iff_toInt_le, iI_toInt ha, iI_toInt hb]
theorem iI_eq {a b : Int} (ha : zb a) (hb : zb b) : iI a = iI b ↔ a = b := by
  constructor
  · intro h
    have := congrArg Int32.toInt h
    rwa [iI_toInt ha, iI_toInt hb] at this
  · intro h; rw [h]
theorem iI_nat (n : Nat) : nI n = iI (n : Int) := by
  unfold nI iI
  first | rfl | simp
theorem iI_0 : (0 : Int32) = iI 0 := by decide +kernel
theorem iI_inj {a b : Int} (h : a = b) : iI a = iI b := by rw [h]
theorem iI_div {a b : Int} (ha : zb a) (hb : zb b) (h0 : 0 ≤ a) (h1 : 0 < b) : iI a / iI b = iI (a / b) := by
  apply Int32.toInt_inj.mp
  rw [Int32.toInt_div_of_ne_right, iI_toInt ha, iI_toInt hb, iI_toInt, Int.tdiv_eq_ediv_of_nonneg h0]
  · have h2 : 0 ≤ a / b := Int.ediv_nonneg h0 (by omega)
    have h3 : a / b ≤ a := Int.ediv_le_self b h0
    unfold zb at *
    omega
  · intro e
    have := congrArg Int32.toInt e
    rw [iI_toInt hb] at this
    have e2 : (-1 : Int32).toInt = -1 := by decide
    omega
theorem iI_rem {a b : Int} (ha : zb a) (hb : zb b) (h0 : 0 ≤ a) (h1 : 0 < b) : iI a - iI a / iI b * iI b = iI (a % b) := by
  rw [iI_div ha hb h0 h1, iI_mul, iI_sub]
  apply iI_inj
  have := Int.emod_add_mul_ediv a b
  rw [Int.mul_comm] at this
  omega
def zV (v : Value) (σ : zS) : zQ := fun r s => r = some v ∧ s = σ
def zU (σ : zS) : zQ := fun r s => r = none ∧ s = σ
def znl (a : Option Value) : Bool := match a with
  | some (.long _) => false
  | some (.double _) => false
  | _ => true
section ZS
variable {E : zE} {d mc ms : Nat} {M : zM} {P : Nat → zOp} {Q : zQ} {pc nx tg bc bs : Nat} {ls : List (Option Value)} {st : List Value} {σ : zS} {k : Nat → Nat × Nat} {h : Nat → Int → Int} {r : Nat → Int → Option Nat} {l : Nat → Nat → Int64} {n : Nat}
theorem zstep (ok : zOK M P) {o : zOp} {c : zC} (hP : P pc = o) (hk : o E d Q c (zGo E d M mc ms Q)) : zGo E d M mc ms Q pc c := ok pc E d Q mc ms c _ (fun _ _ q => q) (hP ▸ hk)
theorem zclr_id {ls : List (Option Value)} {k : Nat} (hz : znl (zg ls k) = true) : zclr ls (k + 1) = ls := by
  show (match zg ls k with
    | some (.long _) => zset ls k none
    | some (.double _) => zset ls k none
    | _ => ls) = ls
  split
  · next e => rw [e] at hz; cases hz
  · next e => rw [e] at hz; cases hz
  · rfl
theorem s_ldI0 (ok : zOK M P) {x : Int32} (hP : P pc = oLdI 0 nx) (hk : zGo E d M mc ms Q nx (some (.int x) :: ls, .int x :: st, σ, bc, bs)) : zGo E d M mc ms Q pc (some (.int x) :: ls, st, σ, bc, bs) := zstep ok hP hk
theorem s_ldA0 (ok : zOK M P) {x : Nat} (hP : P pc = oLdA 0 nx) (hk : zGo E d M mc ms Q nx (some (.ref x) :: ls, .ref x :: st, σ, bc, bs)) : zGo E d M mc ms Q pc (some (.ref x) :: ls, st, σ, bc, bs) := zstep ok hP hk
theorem s_ldN0 (ok : zOK M P) (hP : P pc = oLdA 0 nx) (hk : zGo E d M mc ms Q nx (some (.null) :: ls, .null :: st, σ, bc, bs)) : zGo E d M mc ms Q pc (some (.null) :: ls, st, σ, bc, bs) := zstep ok hP hk
theorem s_ldL0 (ok : zOK M P) {x : Int64} (hP : P pc = oLdL 0 nx) (hk : zGo E d M mc ms Q nx (some (.long x) :: ls, .long x :: st, σ, bc, bs)) : zGo E d M mc ms Q pc (some (.long x) :: ls, st, σ, bc, bs) := zstep ok hP hk
theorem s_stI0 (ok : zOK M P) {b : Option Value} {x : Int32} (hP : P pc = oStI 0 nx) (hk : zGo E d M mc ms Q nx (some (.int x) :: ls, st, σ, bc, bs)) : zGo E d M mc ms Q pc (b :: ls, .int x :: st, σ, bc, bs) := zstep ok hP hk
theorem s_stA0 (ok : zOK M P) {b : Option Value} {x : Nat} (hP : P pc = oStA 0 nx) (hk : zGo E d M mc ms Q nx (some (.ref x) :: ls, st, σ, bc, bs)) : zGo E d M mc ms Q pc (b :: ls, .ref x :: st, σ, bc, bs) := zstep ok hP hk
theorem s_stN0 (ok : zOK M P) {b : Option Value} (hP : P pc = oStA 0 nx) (hk : zGo E d M mc ms Q nx (some (.null) :: ls, st, σ, bc, bs)) : zGo E d M mc ms Q pc (b :: ls, .null :: st, σ, bc, bs) := zstep ok hP hk
theorem s_inc0 (ok : zOK M P) {a m : Int} (hP : P pc = oInc 0 (iI m) nx) (hk : zGo E d M mc ms Q nx (some (.int (iI (a + m))) :: ls, st, σ, bc, bs)) : zGo E d M mc ms Q pc (some (.int (iI a)) :: ls, st, σ, bc, bs) := by
  refine zstep ok hP ?_
  show zGo E d M mc ms Q nx (some (.int (iI a + iI m)) :: ls, st, σ, bc, bs)
  rw [iI_add]
  exact hk
theorem s_ldI1 (ok : zOK M P) {a0 : Option Value} {x : Int32} (hP : P pc = oLdI 1 nx) (hk : zGo E d M mc ms Q nx (a0 :: some (.int x) :: ls, .int x :: st, σ, bc, bs)) : zGo E d M mc ms Q pc (a0 :: some (.int x) :: ls, st, σ, bc, bs) := zstep ok hP hk
theorem s_ldA1 (ok : zOK M P) {a0 : Option Value} {x : Nat} (hP : P pc = oLdA 1 nx) (hk : zGo E d M mc ms Q nx (a0 :: some (.ref x) :: ls, .ref x :: st, σ, bc, bs)) : zGo E d M mc ms Q pc (a0 :: some (.ref x) :: ls, st, σ, bc, bs) := zstep ok hP hk
theorem s_ldN1 (ok : zOK M P) {a0 : Option Value} (hP : P pc = oLdA 1 nx) (hk : zGo E d M mc ms Q nx (a0 :: some (.null) :: ls, .null :: st, σ, bc, bs)) : zGo E d M mc ms Q pc (a0 :: some (.null) :: ls, st, σ, bc, bs) := zstep ok hP hk
theorem s_stI1 (ok : zOK M P) {a0 : Option Value} {b : Option Value} {x : Int32} (hP : P pc = oStI 1 nx) (hz : znl a0 = true) (hk : zGo E d M mc ms Q nx (a0 :: some (.int x) :: ls, st, σ, bc, bs)) : zGo E d M mc ms Q pc (a0 :: b :: ls, .int x :: st, σ, bc, bs) := by
  refine zstep ok hP ?_
  show zGo E d M mc ms Q nx (zset (zclr (a0 :: b :: ls) 1) 1 (some (.int x)), st, σ, bc, bs)
  rw [zclr_id (ls := a0 :: b :: ls) (k := 0) hz]
  exact hk
theorem s_stA1 (ok : zOK M P) {a0 : Option Value} {b : Option Value} {x : Nat} (hP : P pc = oStA 1 nx) (hz : znl a0 = true) (hk : zGo E d M mc ms Q nx (a0 :: some (.ref x) :: ls, st, σ, bc, bs)) : zGo E d M mc ms Q pc (a0 :: b :: ls, .ref x :: st, σ, bc, bs) := by
  refine zstep ok hP ?_
  show zGo E d M mc ms Q nx (zset (zclr (a0 :: b :: ls) 1) 1 (some (.ref x)), st, σ, bc, bs)
  rw [zclr_id (ls := a0 :: b :: ls) (k := 0) hz]
  exact hk
theorem s_stN1 (ok : zOK M P) {a0 : Option Value} {b : Option Value} (hP : P pc = oStA 1 nx) (hz : znl a0 = true) (hk : zGo E d M mc ms Q nx (a0 :: some (.null) :: ls, st, σ, bc, bs)) : zGo E d M mc ms Q pc (a0 :: b :: ls, .null :: st, σ, bc, bs) := by
  refine zstep ok hP ?_
  show zGo E d M mc ms Q nx (zset (zclr (a0 :: b :: ls) 1) 1 (some (.null)), st, σ, bc, bs)
  rw [zclr_id (ls := a0 :: b :: ls) (k := 0) hz]
  exact hk
theorem s_inc1 (ok : zOK M P) {a0 : Option Value} {a m : Int} (hP : P pc = oInc 1 (iI m) nx) (hz : znl a0 = true) (hk : zGo E d M mc ms Q nx (a0 :: some (.int (iI (a + m))) :: ls, st, σ, bc, bs)) : zGo E d M mc ms Q pc (a0 :: some (.int (iI a)) :: ls, st, σ, bc, bs) := by
  refine zstep ok hP ?_
  show zGo E d M mc ms Q nx (zset (zclr (a0 :: some (.int (iI a)) :: ls) 1) 1 (some (.int (iI a + iI m))), st, σ, bc, bs)
  rw [zclr_id (ls := a0 :: some (.int (iI a)) :: ls) (k := 0) hz, iI_add]
  exact hk
theorem s_ldI2 (ok : zOK M P) {a0 a1 : Option Value} {x : Int32} (hP : P pc = oLdI 2 nx) (hk : zGo E d M mc ms Q nx (a0 :: a1 :: some (.int x) :: ls, .int x :: st, σ, bc, bs)) : zGo E d M mc ms Q pc (a0 :: a1 :: some (.int x) :: ls, st, σ, bc, bs) := zstep ok hP hk
theorem s_ldA2 (ok : zOK M P) {a0 a1 : Option Value} {x : Nat} (hP : P pc = oLdA 2 nx) (hk : zGo E d M mc ms Q nx (a0 :: a1 :: some (.ref x) :: ls, .ref x :: st, σ, bc, bs)) : zGo E d M mc ms Q pc (a0 :: a1 :: some (.ref x) :: ls, st, σ, bc, bs) := zstep ok hP hk
theorem s_ldN2 (ok : zOK M P) {a0 a1 : Option Value} (hP : P pc = oLdA 2 nx) (hk : zGo E d M mc ms Q nx (a0 :: a1 :: some (.null) :: ls, .null :: st, σ, bc, bs)) : zGo E d M mc ms Q pc (a0 :: a1 :: some (.null) :: ls, st, σ, bc, bs) := zstep ok hP hk
theorem s_ldL2 (ok : zOK M P) {a0 a1 : Option Value} {x : Int64} (hP : P pc = oLdL 2 nx) (hk : zGo E d M mc ms Q nx (a0 :: a1 :: some (.long x) :: ls, .long x :: st, σ, bc, bs)) : zGo E d M mc ms Q pc (a0 :: a1 :: some (.long x) :: ls, st, σ, bc, bs) := zstep ok hP hk
theorem s_stI2 (ok : zOK M P) {a0 a1 : Option Value} {b : Option Value} {x : Int32} (hP : P pc = oStI 2 nx) (hz : znl a1 = true) (hk : zGo E d M mc ms Q nx (a0 :: a1 :: some (.int x) :: ls, st, σ, bc, bs)) : zGo E d M mc ms Q pc (a0 :: a1 :: b :: ls, .int x :: st, σ, bc, bs) := by
  refine zstep ok hP ?_
  show zGo E d M mc ms Q nx (zset (zclr (a0 :: a1 :: b :: ls) 2) 2 (some (.int x)), st, σ, bc, bs)
  rw [zclr_id (ls := a0 :: a1 :: b :: ls) (k := 1) hz]
  exact hk
theorem s_stA2 (ok : zOK M P) {a0 a1 : Option Value} {b : Option Value} {x : Nat} (hP : P pc = oStA 2 nx) (hz : znl a1 = true) (hk : zGo E d M mc ms Q nx (a0 :: a1 :: some (.ref x) :: ls, st, σ, bc, bs)) : zGo E d M mc ms Q pc (a0 :: a1 :: b :: ls, .ref x :: st, σ, bc, bs) := by
  refine zstep ok hP ?_
  show zGo E d M mc ms Q nx (zset (zclr (a0 :: a1 :: b :: ls) 2) 2 (some (.ref x)), st, σ, bc, bs)
  rw [zclr_id (ls := a0 :: a1 :: b :: ls) (k := 1) hz]
  exact hk
theorem s_stN2 (ok : zOK M P) {a0 a1 : Option Value} {b : Option Value} (hP : P pc = oStA 2 nx) (hz : znl a1 = true) (hk : zGo E d M mc ms Q nx (a0 :: a1 :: some (.null) :: ls, st, σ, bc, bs)) : zGo E d M mc ms Q pc (a0 :: a1 :: b :: ls, .null :: st, σ, bc, bs) := by
  refine zstep ok hP ?_
  show zGo E d M mc ms Q nx (zset (zclr (a0 :: a1 :: b :: ls) 2) 2 (some (.null)), st, σ, bc, bs)
  rw [zclr_id (ls := a0 :: a1 :: b :: ls) (k := 1) hz]
  exact hk
theorem s_inc2 (ok : zOK M P) {a0 a1 : Option Value} {a m : Int} (hP : P pc = oInc 2 (iI m) nx) (hz : znl a1 = true) (hk : zGo E d M mc ms Q nx (a0 :: a1 :: some (.int (iI (a + m))) :: ls, st, σ, bc, bs)) : zGo E d M mc ms Q pc (a0 :: a1 :: some (.int (iI a)) :: ls, st, σ, bc, bs) := by
  refine zstep ok hP ?_
  show zGo E d M mc ms Q nx (zset (zclr (a0 :: a1 :: some (.int (iI a)) :: ls) 2) 2 (some (.int (iI a + iI m))), st, σ, bc, bs)
  rw [zclr_id (ls := a0 :: a1 :: some (.int (iI a)) :: ls) (k := 1) hz, iI_add]
  exact hk
theorem s_ldI3 (ok : zOK M P) {a0 a1 a2 : Option Value} {x : Int32} (hP : P pc = oLdI 3 nx) (hk : zGo E d M mc ms Q nx (a0 :: a1 :: a2 :: some (.int x) :: ls, .int x :: st, σ, bc, bs)) : zGo E d M mc ms Q pc (a0 :: a1 :: a2 :: some (.int x) :: ls, st, σ, bc, bs) := zstep ok hP hk
theorem s_ldA3 (ok : zOK M P) {a0 a1 a2 : Option Value} {x : Nat} (hP : P pc = oLdA 3 nx) (hk : zGo E d M mc ms Q nx (a0 :: a1 :: a2 :: some (.ref x) :: ls, .ref x :: st, σ, bc, bs)) : zGo E d M mc ms Q pc (a0 :: a1 :: a2 :: some (.ref x) :: ls, st, σ, bc, bs) := zstep ok hP hk
theorem s_ldN3 (ok : zOK M P) {a0 a1 a2 : Option Value} (hP : P pc = oLdA 3 nx) (hk : zGo E d M mc ms Q nx (a0 :: a1 :: a2 :: some (.null) :: ls, .null :: st, σ, bc, bs)) : zGo E d M mc ms Q pc (a0 :: a1 :: a2 :: some (.null) :: ls, st, σ, bc, bs) := zstep ok hP hk
theorem s_ldL3 (ok : zOK M P) {a0 a1 a2 : Option Value} {x : Int64} (hP : P pc = oLdL 3 nx) (hk : zGo E d M mc ms Q nx (a0 :: a1 :: a2 :: some (.long x) :: ls, .long x :: st, σ, bc, bs)) : zGo E d M mc ms Q pc (a0 :: a1 :: a2 :: some (.long x) :: ls, st, σ, bc, bs) := zstep ok hP hk
theorem s_stI3 (ok : zOK M P) {a0 a1 a2 : Option Value} {b : Option Value} {x : Int32} (hP : P pc = oStI 3 nx) (hz : znl a2 = true) (hk : zGo E d M mc ms Q nx (a0 :: a1 :: a2 :: some (.int x) :: ls, st, σ, bc, bs)) : zGo E d M mc ms Q pc (a0 :: a1 :: a2 :: b :: ls, .int x :: st, σ, bc, bs) := by
  refine zstep ok hP ?_
  show zGo E d M mc ms Q nx (zset (zclr (a0 :: a1 :: a2 :: b :: ls) 3) 3 (some (.int x)), st, σ, bc, bs)
  rw [zclr_id (ls := a0 :: a1 :: a2 :: b :: ls) (k := 2) hz]
  exact hk
theorem s_stA3 (ok : zOK M P) {a0 a1 a2 : Option Value} {b : Option Value} {x : Nat} (hP : P pc = oStA 3 nx) (hz : znl a2 = true) (hk : zGo E d M mc ms Q nx (a0 :: a1 :: a2 :: some (.ref x) :: ls, st, σ, bc, bs)) : zGo E d M mc ms Q pc (a0 :: a1 :: a2 :: b :: ls, .ref x :: st, σ, bc, bs) := by
  refine zstep ok hP ?_
  show zGo E d M mc ms Q nx (zset (zclr (a0 :: a1 :: a2 :: b :: ls) 3) 3 (some (.ref x)), st, σ, bc, bs)
  rw [zclr_id (ls := a0 :: a1 :: a2 :: b :: ls) (k := 2) hz]
  exact hk
theorem s_stN3 (ok : zOK M P) {a0 a1 a2 : Option Value} {b : Option Value} (hP : P pc = oStA 3 nx) (hz : znl a2 = true) (hk : zGo E d M mc ms Q nx (a0 :: a1 :: a2 :: some (.null) :: ls, st, σ, bc, bs)) : zGo E d M mc ms Q pc (a0 :: a1 :: a2 :: b :: ls, .null :: st, σ, bc, bs) := by
  refine zstep ok hP ?_
  show zGo E d M mc ms Q nx (zset (zclr (a0 :: a1 :: a2 :: b :: ls) 3) 3 (some (.null)), st, σ, bc, bs)
  rw [zclr_id (ls := a0 :: a1 :: a2 :: b :: ls) (k := 2) hz]
  exact hk
theorem s_inc3 (ok : zOK M P) {a0 a1 a2 : Option Value} {a m : Int} (hP : P pc = oInc 3 (iI m) nx) (hz : znl a2 = true) (hk : zGo E d M mc ms Q nx (a0 :: a1 :: a2 :: some (.int (iI (a + m))) :: ls, st, σ, bc, bs)) : zGo E d M mc ms Q pc (a0 :: a1 :: a2 :: some (.int (iI a)) :: ls, st, σ, bc, bs) := by
  refine zstep ok hP ?_
  show zGo E d M mc ms Q nx (zset (zclr (a0 :: a1 :: a2 :: some (.int (iI a)) :: ls) 3) 3 (some (.int (iI a + iI m))), st, σ, bc, bs)
  rw [zclr_id (ls := a0 :: a1 :: a2 :: some (.int (iI a)) :: ls) (k := 2) hz, iI_add]
  exact hk
theorem s_ldI4 (ok : zOK M P) {a0 a1 a2 a3 : Option Value} {x : Int32} (hP : P pc = oLdI 4 nx) (hk : zGo E d M mc ms Q nx (a0 :: a1 :: a2 :: a3 :: some (.int x) :: ls, .int x :: st, σ, bc, bs)) : zGo E d M mc ms Q pc (a0 :: a1 :: a2 :: a3 :: some (.int x) :: ls, st, σ, bc, bs) := zstep ok hP hk
theorem s_ldA4 (ok : zOK M P) {a0 a1 a2 a3 : Option Value} {x : Nat} (hP : P pc = oLdA 4 nx) (hk : zGo E d M mc ms Q nx (a0 :: a1 :: a2 :: a3 :: some (.ref x) :: ls, .ref x :: st, σ, bc, bs)) : zGo E d M mc ms Q pc (a0 :: a1 :: a2 :: a3 :: some (.ref x) :: ls, st, σ, bc, bs) := zstep ok hP hk
theorem s_ldN4 (ok : zOK M P) {a0 a1 a2 a3 : Option Value} (hP : P pc = oLdA 4 nx) (hk : zGo E d M mc ms Q nx (a0 :: a1 :: a2 :: a3 :: some (.null) :: ls, .null :: st, σ, bc, bs)) : zGo E d M mc ms Q pc (a0 :: a1 :: a2 :: a3 :: some (.null) :: ls, st, σ, bc, bs) := zstep ok hP hk
theorem s_ldL4 (ok : zOK M P) {a0 a1 a2 a3 : Option Value} {x : Int64} (hP : P pc = oLdL 4 nx) (hk : zGo E d M mc ms Q nx (a0 :: a1 :: a2 :: a3 :: some (.long x) :: ls, .long x :: st, σ, bc, bs)) : zGo E d M mc ms Q pc (a0 :: a1 :: a2 :: a3 :: some (.long x) :: ls, st, σ, bc, bs) := zstep ok hP hk
theorem s_stI4 (ok : zOK M P) {a0 a1 a2 a3 : Option Value} {b : Option Value} {x : Int32} (hP : P pc = oStI 4 nx) (hz : znl a3 = true) (hk : zGo E d M mc ms Q nx (a0 :: a1 :: a2 :: a3 :: some (.int x) :: ls, st, σ, bc, bs)) : zGo E d M mc ms Q pc (a0 :: a1 :: a2 :: a3 :: b :: ls, .int x :: st, σ, bc, bs) := by
  refine zstep ok hP ?_
  show zGo E d M mc ms Q nx (zset (zclr (a0 :: a1 :: a2 :: a3 :: b :: ls) 4) 4 (some (.int x)), st, σ, bc, bs)
  rw [zclr_id (ls := a0 :: a1 :: a2 :: a3 :: b :: ls) (k := 3) hz]
  exact hk
theorem s_stA4 (ok : zOK M P) {a0 a1 a2 a3 : Option Value} {b : Option Value} {x : Nat} (hP : P pc = oStA 4 nx) (hz : znl a3 = true) (hk : zGo E d M mc ms Q nx (a0 :: a1 :: a2 :: a3 :: some (.ref x) :: ls, st, σ, bc, bs)) : zGo E d M mc ms Q pc (a0 :: a1 :: a2 :: a3 :: b :: ls, .ref x :: st, σ, bc, bs) := by
  refine zstep ok hP ?_
  show zGo E d M mc ms Q nx (zset (zclr (a0 :: a1 :: a2 :: a3 :: b :: ls) 4) 4 (some (.ref x)), st, σ, bc, bs)
  rw [zclr_id (ls := a0 :: a1 :: a2 :: a3 :: b :: ls) (k := 3) hz]
  exact hk
theorem s_stN4 (ok : zOK M P) {a0 a1 a2 a3 : Option Value} {b : Option Value} (hP : P pc = oStA 4 nx) (hz : znl a3 = true) (hk : zGo E d M mc ms Q nx (a0 :: a1 :: a2 :: a3 :: some (.null) :: ls, st, σ, bc, bs)) : zGo E d M mc ms Q pc (a0 :: a1 :: a2 :: a3 :: b :: ls, .null :: st, σ, bc, bs) := by
  refine zstep ok hP ?_
  show zGo E d M mc ms Q nx (zset (zclr (a0 :: a1 :: a2 :: a3 :: b :: ls) 4) 4 (some (.null)), st, σ, bc, bs)
  rw [zclr_id (ls := a0 :: a1 :: a2 :: a3 :: b :: ls) (k := 3) hz]
  exact hk
theorem s_inc4 (ok : zOK M P) {a0 a1 a2 a3 : Option Value} {a m : Int} (hP : P pc = oInc 4 (iI m) nx) (hz : znl a3 = true) (hk : zGo E d M mc ms Q nx (a0 :: a1 :: a2 :: a3 :: some (.int (iI (a + m))) :: ls, st, σ, bc, bs)) : zGo E d M mc ms Q pc (a0 :: a1 :: a2 :: a3 :: some (.int (iI a)) :: ls, st, σ, bc, bs) := by
  refine zstep ok hP ?_
  show zGo E d M mc ms Q nx (zset (zclr (a0 :: a1 :: a2 :: a3 :: some (.int (iI a)) :: ls) 4) 4 (some (.int (iI a + iI m))), st, σ, bc, bs)
  rw [zclr_id (ls := a0 :: a1 :: a2 :: a3 :: some (.int (iI a)) :: ls) (k := 3) hz, iI_add]
  exact hk
theorem s_ldI5 (ok : zOK M P) {a0 a1 a2 a3 a4 : Option Value} {x : Int32} (hP : P pc = oLdI 5 nx) (hk : zGo E d M mc ms Q nx (a0 :: a1 :: a2 :: a3 :: a4 :: some (.int x) :: ls, .int x :: st, σ, bc, bs)) : zGo E d M mc ms Q pc (a0 :: a1 :: a2 :: a3 :: a4 :: some (.int x) :: ls, st, σ, bc, bs) := zstep ok hP hk
theorem s_ldA5 (ok : zOK M P) {a0 a1 a2 a3 a4 : Option Value} {x : Nat} (hP : P pc = oLdA 5 nx) (hk : zGo E d M mc ms Q nx (a0 :: a1 :: a2 :: a3 :: a4 :: some (.ref x) :: ls, .ref x :: st, σ, bc, bs)) : zGo E d M mc ms Q pc (a0 :: a1 :: a2 :: a3 :: a4 :: some (.ref x) :: ls, st, σ, bc, bs) := zstep ok hP hk
theorem s_ldN5 (ok : zOK M P) {a0 a1 a2 a3 a4 : Option Value} (hP : P pc = oLdA 5 nx) (hk : zGo E d M mc ms Q nx (a0 :: a1 :: a2 :: a3 :: a4 :: some (.null) :: ls, .null :: st, σ, bc, bs)) : zGo E d M mc ms Q pc (a0 :: a1 :: a2 :: a3 :: a4 :: some (.null) :: ls, st, σ, bc, bs) := zstep ok hP hk
theorem s_ldL5 (ok : zOK M P) {a0 a1 a2 a3 a4 : Option Value} {x : Int64} (hP : P pc = oLdL 5 nx) (hk : zGo E d M mc ms Q nx (a0 :: a1 :: a2 :: a3 :: a4 :: some (.long x) :: ls, .long x :: st, σ, bc, bs)) : zGo E d M mc ms Q pc (a0 :: a1 :: a2 :: a3 :: a4 :: some (.long x) :: ls, st, σ, bc, bs) := zstep ok hP hk
theorem s_stI5 (ok : zOK M P) {a0 a1 a2 a3 a4 : Option Value} {b : Option Value} {x : Int32} (hP : P pc = oStI 5 nx) (hz : znl a4 = true) (hk : zGo E d M mc ms Q nx (a0 :: a1 :: a2 :: a3 :: a4 :: some (.int x) :: ls, st, σ, bc, bs)) : zGo E d M mc ms Q pc (a0 :: a1 :: a2 :: a3 :: a4 :: b :: ls, .int x :: st, σ, bc, bs) := by
  refine zstep ok hP ?_
  show zGo E d M mc ms Q nx (zset (zclr (a0 :: a1 :: a2 :: a3 :: a4 :: b :: ls) 5) 5 (some (.int x)), st, σ, bc, bs)
  rw [zclr_id (ls := a0 :: a1 :: a2 :: a3 :: a4 :: b :: ls) (k := 4) hz]
  exact hk
theorem s_stA5 (ok : zOK M P) {a0 a1 a2 a3 a4 : Option Value} {b : Option Value} {x : Nat} (hP : P pc = oStA 5 nx) (hz : znl a4 = true) (hk : zGo E d M mc ms Q nx (a0 :: a1 :: a2 :: a3 :: a4 :: some (.ref x) :: ls, st, σ, bc, bs)) : zGo E d M mc ms Q pc (a0 :: a1 :: a2 :: a3 :: a4 :: b :: ls, .ref x :: st, σ, bc, bs) := by
  refine zstep ok hP ?_
  show zGo E d M mc ms Q nx (zset (zclr (a0 :: a1 :: a2 :: a3 :: a4 :: b :: ls) 5) 5 (some (.ref x)), st, σ, bc, bs)
  rw [zclr_id (ls := a0 :: a1 :: a2 :: a3 :: a4 :: b :: ls) (k := 4) hz]
  exact hk
theorem s_stN5 (ok : zOK M P) {a0 a1 a2 a3 a4 : Option Value} {b : Option Value} (hP : P pc = oStA 5 nx) (hz : znl a4 = true) (hk : zGo E d M mc ms Q nx (a0 :: a1 :: a2 :: a3 :: a4 :: some (.null) :: ls, st, σ, bc, bs)) : zGo E d M mc ms Q pc (a0 :: a1 :: a2 :: a3 :: a4 :: b :: ls, .null :: st, σ, bc, bs) := by
  refine zstep ok hP ?_
  show zGo E d M mc ms Q nx (zset (zclr (a0 :: a1 :: a2 :: a3 :: a4 :: b :: ls) 5) 5 (some (.null)), st, σ, bc, bs)
  rw [zclr_id (ls := a0 :: a1 :: a2 :: a3 :: a4 :: b :: ls) (k := 4) hz]
  exact hk
theorem s_inc5 (ok : zOK M P) {a0 a1 a2 a3 a4 : Option Value} {a m : Int} (hP : P pc = oInc 5 (iI m) nx) (hz : znl a4 = true) (hk : zGo E d M mc ms Q nx (a0 :: a1 :: a2 :: a3 :: a4 :: some (.int (iI (a + m))) :: ls, st, σ, bc, bs)) : zGo E d M mc ms Q pc (a0 :: a1 :: a2 :: a3 :: a4 :: some (.int (iI a)) :: ls, st, σ, bc, bs) := by
  refine zstep ok hP ?_
  show zGo E d M mc ms Q nx (zset (zclr (a0 :: a1 :: a2 :: a3 :: a4 :: some (.int (iI a)) :: ls) 5) 5 (some (.int (iI a + iI m))), st, σ, bc, bs)
  rw [zclr_id (ls := a0 :: a1 :: a2 :: a3 :: a4 :: some (.int (iI a)) :: ls) (k := 4) hz, iI_add]
  exact hk
theorem s_ldI6 (ok : zOK M P) {a0 a1 a2 a3 a4 a5 : Option Value} {x : Int32} (hP : P pc = oLdI 6 nx) (hk : zGo E d M mc ms Q nx (a0 :: a1 :: a2 :: a3 :: a4 :: a5 :: some (.int x) :: ls, .int x :: st, σ, bc, bs)) : zGo E d M mc ms Q pc (a0 :: a1 :: a2 :: a3 :: a4 :: a5 :: some (.int x) :: ls, st, σ, bc, bs) := zstep ok hP hk
theorem s_ldA6 (ok : zOK M P) {a0 a1 a2 a3 a4 a5 : Option Value} {x : Nat} (hP : P pc = oLdA 6 nx) (hk : zGo E d M mc ms Q nx (a0 :: a1 :: a2 :: a3 :: a4 :: a5 :: some (.ref x) :: ls, .ref x :: st, σ, bc, bs)) : zGo E d M mc ms Q pc (a0 :: a1 :: a2 :: a3 :: a4 :: a5 :: some (.ref x) :: ls, st, σ, bc, bs) := zstep ok hP hk
theorem s_ldN6 (ok : zOK M P) {a0 a1 a2 a3 a4 a5 : Option Value} (hP : P pc = oLdA 6 nx) (hk : zGo E d M mc ms Q nx (a0 :: a1 :: a2 :: a3 :: a4 :: a5 :: some (.null) :: ls, .null :: st, σ, bc, bs)) : zGo E d M mc ms Q pc (a0 :: a1 :: a2 :: a3 :: a4 :: a5 :: some (.null) :: ls, st, σ, bc, bs) := zstep ok hP hk
theorem s_ldL6 (ok : zOK M P) {a0 a1 a2 a3 a4 a5 : Option Value} {x : Int64} (hP : P pc = oLdL 6 nx) (hk : zGo E d M mc ms Q nx (a0 :: a1 :: a2 :: a3 :: a4 :: a5 :: some (.long x) :: ls, .long x :: st, σ, bc, bs)) : zGo E d M mc ms Q pc (a0 :: a1 :: a2 :: a3 :: a4 :: a5 :: some (.long x) :: ls, st, σ, bc, bs) := zstep ok hP hk
theorem s_stI6 (ok : zOK M P) {a0 a1 a2 a3 a4 a5 : Option Value} {b : Option Value} {x : Int32} (hP : P pc = oStI 6 nx) (hz : znl a5 = true) (hk : zGo E d M mc ms Q nx (a0 :: a1 :: a2 :: a3 :: a4 :: a5 :: some (.int x) :: ls, st, σ, bc, bs)) : zGo E d M mc ms Q pc (a0 :: a1 :: a2 :: a3 :: a4 :: a5 :: b :: ls, .int x :: st, σ, bc, bs) := by
  refine zstep ok hP ?_
  show zGo E d M mc ms Q nx (zset (zclr (a0 :: a1 :: a2 :: a3 :: a4 :: a5 :: b :: ls) 6) 6 (some (.int x)), st, σ, bc, bs)
  rw [zclr_id (ls := a0 :: a1 :: a2 :: a3 :: a4 :: a5 :: b :: ls) (k := 5) hz]
  exact hk
theorem s_stA6 (ok : zOK M P) {a0 a1 a2 a3 a4 a5 : Option Value} {b : Option Value} {x : Nat} (hP : P pc = oStA 6 nx) (hz : znl a5 = true) (hk : zGo E d M mc ms Q nx (a0 :: a1 :: a2 :: a3 :: a4 :: a5 :: some (.ref x) :: ls, st, σ, bc, bs)) : zGo E d M mc ms Q pc (a0 :: a1 :: a2 :: a3 :: a4 :: a5 :: b :: ls, .ref x :: st, σ, bc, bs) := by
  refine zstep ok hP ?_
  show zGo E d M mc ms Q nx (zset (zclr (a0 :: a1 :: a2 :: a3 :: a4 :: a5 :: b :: ls) 6) 6 (some (.ref x)), st, σ, bc, bs)
  rw [zclr_id (ls := a0 :: a1 :: a2 :: a3 :: a4 :: a5 :: b :: ls) (k := 5) hz]
  exact hk
theorem s_stN6 (ok : zOK M P) {a0 a1 a2 a3 a4 a5 : Option Value} {b : Option Value} (hP : P pc = oStA 6 nx) (hz : znl a5 = true) (hk : zGo E d M mc ms Q nx (a0 :: a1 :: a2 :: a3 :: a4 :: a5 :: some (.null) :: ls, st, σ, bc, bs)) : zGo E d M mc ms Q pc (a0 :: a1 :: a2 :: a3 :: a4 :: a5 :: b :: ls, .null :: st, σ, bc, bs) := by
  refine zstep ok hP ?_
  show zGo E d M mc ms Q nx (zset (zclr (a0 :: a1 :: a2 :: a3 :: a4 :: a5 :: b :: ls) 6) 6 (some (.null)), st, σ, bc, bs)
  rw [zclr_id (ls := a0 :: a1 :: a2 :: a3 :: a4 :: a5 :: b :: ls) (k := 5) hz]
  exact hk
theorem s_inc6 (ok : zOK M P) {a0 a1 a2 a3 a4 a5 : Option Value} {a m : Int} (hP : P pc = oInc 6 (iI m) nx) (hz : znl a5 = true) (hk : zGo E d M mc ms Q nx (a0 :: a1 :: a2 :: a3 :: a4 :: a5 :: some (.int (iI (a + m))) :: ls, st, σ, bc, bs)) : zGo E d M mc ms Q pc (a0 :: a1 :: a2 :: a3 :: a4 :: a5 :: some (.int (iI a)) :: ls, st, σ, bc, bs) := by
  refine zstep ok hP ?_
  show zGo E d M mc ms Q nx (zset (zclr (a0 :: a1 :: a2 :: a3 :: a4 :: a5 :: some (.int (iI a)) :: ls) 6) 6 (some (.int (iI a + iI m))), st, σ, bc, bs)
  rw [zclr_id (ls := a0 :: a1 :: a2 :: a3 :: a4 :: a5 :: some (.int (iI a)) :: ls) (k := 5) hz, iI_add]
  exact hk
theorem s_ldI7 (ok : zOK M P) {a0 a1 a2 a3 a4 a5 a6 : Option Value} {x : Int32} (hP : P pc = oLdI 7 nx) (hk : zGo E d M mc ms Q nx (a0 :: a1 :: a2 :: a3 :: a4 :: a5 :: a6 :: some (.int x) :: ls, .int x :: st, σ, bc, bs)) : zGo E d M mc ms Q pc (a0 :: a1 :: a2 :: a3 :: a4 :: a5 :: a6 :: some (.int x) :: ls, st, σ, bc, bs) := zstep ok hP hk
theorem s_ldA7 (ok : zOK M P) {a0 a1 a2 a3 a4 a5 a6 : Option Value} {x : Nat} (hP : P pc = oLdA 7 nx) (hk : zGo E d M mc ms Q nx (a0 :: a1 :: a2 :: a3 :: a4 :: a5 :: a6 :: some (.ref x) :: ls, .ref x :: st, σ, bc, bs)) : zGo E d M mc ms Q pc (a0 :: a1 :: a2 :: a3 :: a4 :: a5 :: a6 :: some (.ref x) :: ls, st, σ, bc, bs) := zstep ok hP hk
theorem s_ldN7 (ok : zOK M P) {a0 a1 a2 a3 a4 a5 a6 : Option Value} (hP : P pc = oLdA 7 nx) (hk : zGo E d M mc ms Q nx (a0 :: a1 :: a2 :: a3 :: a4 :: a5 :: a6 :: some (.null) :: ls, .null :: st, σ, bc, bs)) : zGo E d M mc ms Q pc (a0 :: a1 :: a2 :: a3 :: a4 :: a5 :: a6 :: some (.null) :: ls, st, σ, bc, bs) := zstep ok hP hk
theorem s_stI7 (ok : zOK M P) {a0 a1 a2 a3 a4 a5 a6 : Option Value} {b : Option Value} {x : Int32} (hP : P pc = oStI 7 nx) (hz : znl a6 = true) (hk : zGo E d M mc ms Q nx (a0 :: a1 :: a2 :: a3 :: a4 :: a5 :: a6 :: some (.int x) :: ls, st, σ, bc, bs)) : zGo E d M mc ms Q pc (a0 :: a1 :: a2 :: a3 :: a4 :: a5 :: a6 :: b :: ls, .int x :: st, σ, bc, bs) := by
  refine zstep ok hP ?_
  show zGo E d M mc ms Q nx (zset (zclr (a0 :: a1 :: a2 :: a3 :: a4 :: a5 :: a6 :: b :: ls) 7) 7 (some (.int x)), st, σ, bc, bs)
  rw [zclr_id (ls := a0 :: a1 :: a2 :: a3 :: a4 :: a5 :: a6 :: b :: ls) (k := 6) hz]
  exact hk
theorem s_stA7 (ok : zOK M P) {a0 a1 a2 a3 a4 a5 a6 : Option Value} {b : Option Value} {x : Nat} (hP : P pc = oStA 7 nx) (hz : znl a6 = true) (hk : zGo E d M mc ms Q nx (a0 :: a1 :: a2 :: a3 :: a4 :: a5 :: a6 :: some (.ref x) :: ls, st, σ, bc, bs)) : zGo E d M mc ms Q pc (a0 :: a1 :: a2 :: a3 :: a4 :: a5 :: a6 :: b :: ls, .ref x :: st, σ, bc, bs) := by
  refine zstep ok hP ?_
  show zGo E d M mc ms Q nx (zset (zclr (a0 :: a1 :: a2 :: a3 :: a4 :: a5 :: a6 :: b :: ls) 7) 7 (some (.ref x)), st, σ, bc, bs)
  rw [zclr_id (ls := a0 :: a1 :: a2 :: a3 :: a4 :: a5 :: a6 :: b :: ls) (k := 6) hz]
  exact hk
theorem s_stN7 (ok : zOK M P) {a0 a1 a2 a3 a4 a5 a6 : Option Value} {b : Option Value} (hP : P pc = oStA 7 nx) (hz : znl a6 = true) (hk : zGo E d M mc ms Q nx (a0 :: a1 :: a2 :: a3 :: a4 :: a5 :: a6 :: some (.null) :: ls, st, σ, bc, bs)) : zGo E d M mc ms Q pc (a0 :: a1 :: a2 :: a3 :: a4 :: a5 :: a6 :: b :: ls, .null :: st, σ, bc, bs) := by
  refine zstep ok hP ?_
  show zGo E d M mc ms Q nx (zset (zclr (a0 :: a1 :: a2 :: a3 :: a4 :: a5 :: a6 :: b :: ls) 7) 7 (some (.null)), st, σ, bc, bs)
  rw [zclr_id (ls := a0 :: a1 :: a2 :: a3 :: a4 :: a5 :: a6 :: b :: ls) (k := 6) hz]
  exact hk
theorem s_inc7 (ok : zOK M P) {a0 a1 a2 a3 a4 a5 a6 : Option Value} {a m : Int} (hP : P pc = oInc 7 (iI m) nx) (hz : znl a6 = true) (hk : zGo E d M mc ms Q nx (a0 :: a1 :: a2 :: a3 :: a4 :: a5 :: a6 :: some (.int (iI (a + m))) :: ls, st, σ, bc, bs)) : zGo E d M mc ms Q pc (a0 :: a1 :: a2 :: a3 :: a4 :: a5 :: a6 :: some (.int (iI a)) :: ls, st, σ, bc, bs) := by
  refine zstep ok hP ?_
  show zGo E d M mc ms Q nx (zset (zclr (a0 :: a1 :: a2 :: a3 :: a4 :: a5 :: a6 :: some (.int (iI a)) :: ls) 7) 7 (some (.int (iI a + iI m))), st, σ, bc, bs)
  rw [zclr_id (ls := a0 :: a1 :: a2 :: a3 :: a4 :: a5 :: a6 :: some (.int (iI a)) :: ls) (k := 6) hz, iI_add]
  exact hk
theorem s_ldI8 (ok : zOK M P) {a0 a1 a2 a3 a4 a5 a6 a7 : Option Value} {x : Int32} (hP : P pc = oLdI 8 nx) (hk : zGo E d M mc ms Q nx (a0 :: a1 :: a2 :: a3 :: a4 :: a5 :: a6 :: a7 :: some (.int x) :: ls, .int x :: st, σ, bc, bs)) : zGo E d M mc ms Q pc (a0 :: a1 :: a2 :: a3 :: a4 :: a5 :: a6 :: a7 :: some (.int x) :: ls, st, σ, bc, bs) := zstep ok hP hk
theorem s_ldA8 (ok : zOK M P) {a0 a1 a2 a3 a4 a5 a6 a7 : Option Value} {x : Nat} (hP : P pc = oLdA 8 nx) (hk : zGo E d M mc ms Q nx (a0 :: a1 :: a2 :: a3 :: a4 :: a5 :: a6 :: a7 :: some (.ref x) :: ls, .ref x :: st, σ, bc, bs)) : zGo E d M mc ms Q pc (a0 :: a1 :: a2 :: a3 :: a4 :: a5 :: a6 :: a7 :: some (.ref x) :: ls, st, σ, bc, bs) := zstep ok hP hk
theorem s_ldN8 (ok : zOK M P) {a0 a1 a2 a3 a4 a5 a6 a7 : Option Value} (hP : P pc = oLdA 8 nx) (hk : zGo E d M mc ms Q nx (a0 :: a1 :: a2 :: a3 :: a4 :: a5 :: a6 :: a7 :: some (.null) :: ls, .null :: st, σ, bc, bs)) : zGo E d M mc ms Q pc (a0 :: a1 :: a2 :: a3 :: a4 :: a5 :: a6 :: a7 :: some (.null) :: ls, st, σ, bc, bs) := zstep ok hP hk
theorem s_ldL8 (ok : zOK M P) {a0 a1 a2 a3 a4 a5 a6 a7 : Option Value} {x : Int64} (hP : P pc = oLdL 8 nx) (hk : zGo E d M mc ms Q nx (a0 :: a1 :: a2 :: a3 :: a4 :: a5 :: a6 :: a7 :: some (.long x) :: ls, .long x :: st, σ, bc, bs)) : zGo E d M mc ms Q pc (a0 :: a1 :: a2 :: a3 :: a4 :: a5 :: a6 :: a7 :: some (.long x) :: ls, st, σ, bc, bs) := zstep ok hP hk
theorem s_stI8 (ok : zOK M P) {a0 a1 a2 a3 a4 a5 a6 a7 : Option Value} {b : Option Value} {x : Int32} (hP : P pc = oStI 8 nx) (hz : znl a7 = true) (hk : zGo E d M mc ms Q nx (a0 :: a1 :: a2 :: a3 :: a4 :: a5 :: a6 :: a7 :: some (.int x) :: ls, st, σ, bc, bs)) : zGo E d M mc ms Q pc (a0 :: a1 :: a2 :: a3 :: a4 :: a5 :: a6 :: a7 :: b :: ls, .int x :: st, σ, bc, bs) := by
  refine zstep ok hP ?_
  show zGo E d M mc ms Q nx (zset (zclr (a0 :: a1 :: a2 :: a3 :: a4 :: a5 :: a6 :: a7 :: b :: ls) 8) 8 (some (.int x)), st, σ, bc, bs)
  rw [zclr_id (ls := a0 :: a1 :: a2 :: a3 :: a4 :: a5 :: a6 :: a7 :: b :: ls) (k := 7) hz]
  exact hk
theorem s_stA8 (ok : zOK M P) {a0 a1 a2 a3 a4 a5 a6 a7 : Option Value} {b : Option Value} {x : Nat} (hP : P pc = oStA 8 nx) (hz : znl a7 = true) (hk : zGo E d M mc ms Q nx (a0 :: a1 :: a2 :: a3 :: a4 :: a5 :: a6 :: a7 :: some (.ref x) :: ls, st, σ, bc, bs)) : zGo E d M mc ms Q pc (a0 :: a1 :: a2 :: a3 :: a4 :: a5 :: a6 :: a7 :: b :: ls, .ref x :: st, σ, bc, bs) := by
  refine zstep ok hP ?_
  show zGo E d M mc ms Q nx (zset (zclr (a0 :: a1 :: a2 :: a3 :: a4 :: a5 :: a6 :: a7 :: b :: ls) 8) 8 (some (.ref x)), st, σ, bc, bs)
  rw [zclr_id (ls := a0 :: a1 :: a2 :: a3 :: a4 :: a5 :: a6 :: a7 :: b :: ls) (k := 7) hz]
  exact hk
theorem s_stN8 (ok : zOK M P) {a0 a1 a2 a3 a4 a5 a6 a7 : Option Value} {b : Option Value} (hP : P pc = oStA 8 nx) (hz : znl a7 = true) (hk : zGo E d M mc ms Q nx (a0 :: a1 :: a2 :: a3 :: a4 :: a5 :: a6 :: a7 :: some (.null) :: ls, st, σ, bc, bs)) : zGo E d M mc ms Q pc (a0 :: a1 :: a2 :: a3 :: a4 :: a5 :: a6 :: a7 :: b :: ls, .null :: st, σ, bc, bs) := by
  refine zstep ok hP ?_
  show zGo E d M mc ms Q nx (zset (zclr (a0 :: a1 :: a2 :: a3 :: a4 :: a5 :: a6 :: a7 :: b :: ls) 8) 8 (some (.null)), st, σ, bc, bs)
  rw [zclr_id (ls := a0 :: a1 :: a2 :: a3 :: a4 :: a5 :: a6 :: a7 :: b :: ls) (k := 7) hz]
  exact hk
theorem s_inc8 (ok : zOK M P) {a0 a1 a2 a3 a4 a5 a6 a7 : Option Value} {a m : Int} (hP : P pc = oInc 8 (iI m) nx) (hz : znl a7 = true) (hk : zGo E d M mc ms Q nx (a0 :: a1 :: a2 :: a3 :: a4 :: a5 :: a6 :: a7 :: some (.int (iI (a + m))) :: ls, st, σ, bc, bs)) : zGo E d M mc ms Q pc (a0 :: a1 :: a2 :: a3 :: a4 :: a5 :: a6 :: a7 :: some (.int (iI a)) :: ls, st, σ, bc, bs) := by
  refine zstep ok hP ?_
  show zGo E d M mc ms Q nx (zset (zclr (a0 :: a1 :: a2 :: a3 :: a4 :: a5 :: a6 :: a7 :: some (.int (iI a)) :: ls) 8) 8 (some (.int (iI a + iI m))), st, σ, bc, bs)
  rw [zclr_id (ls := a0 :: a1 :: a2 :: a3 :: a4 :: a5 :: a6 :: a7 :: some (.int (iI a)) :: ls) (k := 7) hz, iI_add]
  exact hk
theorem s_ldI9 (ok : zOK M P) {a0 a1 a2 a3 a4 a5 a6 a7 a8 : Option Value} {x : Int32} (hP : P pc = oLdI 9 nx) (hk : zGo E d M mc ms Q nx (a0 :: a1 :: a2 :: a3 :: a4 :: a5 :: a6 :: a7 :: a8 :: some (.int x) :: ls, .int x :: st, σ, bc, bs)) : zGo E d M mc ms Q pc (a0 :: a1 :: a2 :: a3 :: a4 :: a5 :: a6 :: a7 :: a8 :: some (.int x) :: ls, st, σ, bc, bs) := zstep ok hP hk
theorem s_ldA9 (ok : zOK M P) {a0 a1 a2 a3 a4 a5 a6 a7 a8 : Option Value} {x : Nat} (hP : P pc = oLdA 9 nx) (hk : zGo E d M mc ms Q nx (a0 :: a1 :: a2 :: a3 :: a4 :: a5 :: a6 :: a7 :: a8 :: some (.ref x) :: ls, .ref x :: st, σ, bc, bs)) : zGo E d M mc ms Q pc (a0 :: a1 :: a2 :: a3 :: a4 :: a5 :: a6 :: a7 :: a8 :: some (.ref x) :: ls, st, σ, bc, bs) := zstep ok hP hk
theorem s_ldN9 (ok : zOK M P) {a0 a1 a2 a3 a4 a5 a6 a7 a8 : Option Value} (hP : P pc = oLdA 9 nx) (hk : zGo E d M mc ms Q nx (a0 :: a1 :: a2 :: a3 :: a4 :: a5 :: a6 :: a7 :: a8 :: some (.null) :: ls, .null :: st, σ, bc, bs)) : zGo E d M mc ms Q pc (a0 :: a1 :: a2 :: a3 :: a4 :: a5 :: a6 :: a7 :: a8 :: some (.null) :: ls, st, σ, bc, bs) := zstep ok hP hk
theorem s_stI9 (ok : zOK M P) {a0 a1 a2 a3 a4 a5 a6 a7 a8 : Option Value} {b : Option Value} {x : Int32} (hP : P pc = oStI 9 nx) (hz : znl a8 = true) (hk : zGo E d M mc ms Q nx (a0 :: a1 :: a2 :: a3 :: a4 :: a5 :: a6 :: a7 :: a8 :: some (.int x) :: ls, st, σ, bc, bs)) : zGo E d M mc ms Q pc (a0 :: a1 :: a2 :: a3 :: a4 :: a5 :: a6 :: a7 :: a8 :: b :: ls, .int x :: st, σ, bc, bs) := by
  refine zstep ok hP ?_
  show zGo E d M mc ms Q nx (zset (zclr (a0 :: a1 :: a2 :: a3 :: a4 :: a5 :: a6 :: a7 :: a8 :: b :: ls) 9) 9 (some (.int x)), st, σ, bc, bs)
  rw [zclr_id (ls := a0 :: a1 :: a2 :: a3 :: a4 :: a5 :: a6 :: a7 :: a8 :: b :: ls) (k := 8) hz]
  exact hk
theorem s_stA9 (ok : zOK M P) {a0 a1 a2 a3 a4 a5 a6 a7 a8 : Option Value} {b : Option Value} {x : Nat} (hP : P pc = oStA 9 nx) (hz : znl a8 = true) (hk : zGo E d M mc ms Q nx (a0 :: a1 :: a2 :: a3 :: a4 :: a5 :: a6 :: a7 :: a8 :: some (.ref x) :: ls, st, σ, bc, bs)) : zGo E d M mc ms Q pc (a0 :: a1 :: a2 :: a3 :: a4 :: a5 :: a6 :: a7 :: a8 :: b :: ls, .ref x :: st, σ, bc, bs) := by
  refine zstep ok hP ?_
  show zGo E d M mc ms Q nx (zset (zclr (a0 :: a1 :: a2 :: a3 :: a4 :: a5 :: a6 :: a7 :: a8 :: b :: ls) 9) 9 (some (.ref x)), st, σ, bc, bs)
  rw [zclr_id (ls := a0 :: a1 :: a2 :: a3 :: a4 :: a5 :: a6 :: a7 :: a8 :: b :: ls) (k := 8) hz]
  exact hk
theorem s_stN9 (ok : zOK M P) {a0 a1 a2 a3 a4 a5 a6 a7 a8 : Option Value} {b : Option Value} (hP : P pc = oStA 9 nx) (hz : znl a8 = true) (hk : zGo E d M mc ms Q nx (a0 :: a1 :: a2 :: a3 :: a4 :: a5 :: a6 :: a7 :: a8 :: some (.null) :: ls, st, σ, bc, bs)) : zGo E d M mc ms Q pc (a0 :: a1 :: a2 :: a3 :: a4 :: a5 :: a6 :: a7 :: a8 :: b :: ls, .null :: st, σ, bc, bs) := by
  refine zstep ok hP ?_
  show zGo E d M mc ms Q nx (zset (zclr (a0 :: a1 :: a2 :: a3 :: a4 :: a5 :: a6 :: a7 :: a8 :: b :: ls) 9) 9 (some (.null)), st, σ, bc, bs)
  rw [zclr_id (ls := a0 :: a1 :: a2 :: a3 :: a4 :: a5 :: a6 :: a7 :: a8 :: b :: ls) (k := 8) hz]
  exact hk
theorem s_inc9 (ok : zOK M P) {a0 a1 a2 a3 a4 a5 a6 a7 a8 : Option Value} {a m : Int} (hP : P pc = oInc 9 (iI m) nx) (hz : znl a8 = true) (hk : zGo E d M mc ms Q nx (a0 :: a1 :: a2 :: a3 :: a4 :: a5 :: a6 :: a7 :: a8 :: some (.int (iI (a + m))) :: ls, st, σ, bc, bs)) : zGo E d M mc ms Q pc (a0 :: a1 :: a2 :: a3 :: a4 :: a5 :: a6 :: a7 :: a8 :: some (.int (iI a)) :: ls, st, σ, bc, bs) := by
  refine zstep ok hP ?_
  show zGo E d M mc ms Q nx (zset (zclr (a0 :: a1 :: a2 :: a3 :: a4 :: a5 :: a6 :: a7 :: a8 :: some (.int (iI a)) :: ls) 9) 9 (some (.int (iI a + iI m))), st, σ, bc, bs)
  rw [zclr_id (ls := a0 :: a1 :: a2 :: a3 :: a4 :: a5 :: a6 :: a7 :: a8 :: some (.int (iI a)) :: ls) (k := 8) hz, iI_add]
  exact hk
theorem s_ldI10 (ok : zOK M P) {a0 a1 a2 a3 a4 a5 a6 a7 a8 a9 : Option Value} {x : Int32} (hP : P pc = oLdI 10 nx) (hk : zGo E d M mc ms Q nx (a0 :: a1 :: a2 :: a3 :: a4 :: a5 :: a6 :: a7 :: a8 :: a9 :: some (.int x) :: ls, .int x :: st, σ, bc, bs)) : zGo E d M mc ms Q pc (a0 :: a1 :: a2 :: a3 :: a4 :: a5 :: a6 :: a7 :: a8 :: a9 :: some (.int x) :: ls, st, σ, bc, bs) := zstep ok hP hk
theorem s_ldA10 (ok : zOK M P) {a0 a1 a2 a3 a4 a5 a6 a7 a8 a9 : Option Value} {x : Nat} (hP : P pc = oLdA 10 nx) (hk : zGo E d M mc ms Q nx (a0 :: a1 :: a2 :: a3 :: a4 :: a5 :: a6 :: a7 :: a8 :: a9 :: some (.ref x) :: ls, .ref x :: st, σ, bc, bs)) : zGo E d M mc ms Q pc (a0 :: a1 :: a2 :: a3 :: a4 :: a5 :: a6 :: a7 :: a8 :: a9 :: some (.ref x) :: ls, st, σ, bc, bs) := zstep ok hP hk
theorem s_ldN10 (ok : zOK M P) {a0 a1 a2 a3 a4 a5 a6 a7 a8 a9 : Option Value} (hP : P pc = oLdA 10 nx) (hk : zGo E d M mc ms Q nx (a0 :: a1 :: a2 :: a3 :: a4 :: a5 :: a6 :: a7 :: a8 :: a9 :: some (.null) :: ls, .null :: st, σ, bc, bs)) : zGo E d M mc ms Q pc (a0 :: a1 :: a2 :: a3 :: a4 :: a5 :: a6 :: a7 :: a8 :: a9 :: some (.null) :: ls, st, σ, bc, bs) := zstep ok hP hk
theorem s_stI10 (ok : zOK M P) {a0 a1 a2 a3 a4 a5 a6 a7 a8 a9 : Option Value} {b : Option Value} {x : Int32} (hP : P pc = oStI 10 nx) (hz : znl a9 = true) (hk : zGo E d M mc ms Q nx (a0 :: a1 :: a2 :: a3 :: a4 :: a5 :: a6 :: a7 :: a8 :: a9 :: some (.int x) :: ls, st, σ, bc, bs)) : zGo E d M mc ms Q pc (a0 :: a1 :: a2 :: a3 :: a4 :: a5 :: a6 :: a7 :: a8 :: a9 :: b :: ls, .int x :: st, σ, bc, bs) := by
  refine zstep ok hP ?_
  show zGo E d M mc ms Q nx (zset (zclr (a0 :: a1 :: a2 :: a3 :: a4 :: a5 :: a6 :: a7 :: a8 :: a9 :: b :: ls) 10) 10 (some (.int x)), st, σ, bc, bs)
  rw [zclr_id (ls := a0 :: a1 :: a2 :: a3 :: a4 :: a5 :: a6 :: a7 :: a8 :: a9 :: b :: ls) (k := 9) hz]
  exact hk
theorem s_stA10 (ok : zOK M P) {a0 a1 a2 a3 a4 a5 a6 a7 a8 a9 : Option Value} {b : Option Value} {x : Nat} (hP : P pc = oStA 10 nx) (hz : znl a9 = true) (hk : zGo E d M mc ms Q nx (a0 :: a1 :: a2 :: a3 :: a4 :: a5 :: a6 :: a7 :: a8 :: a9 :: some (.ref x) :: ls, st, σ, bc, bs)) : zGo E d M mc ms Q pc (a0 :: a1 :: a2 :: a3 :: a4 :: a5 :: a6 :: a7 :: a8 :: a9 :: b :: ls, .ref x :: st, σ, bc, bs) := by
  refine zstep ok hP ?_
  show zGo E d M mc ms Q nx (zset (zclr (a0 :: a1 :: a2 :: a3 :: a4 :: a5 :: a6 :: a7 :: a8 :: a9 :: b :: ls) 10) 10 (some (.ref x)), st, σ, bc, bs)
  rw [zclr_id (ls := a0 :: a1 :: a2 :: a3 :: a4 :: a5 :: a6 :: a7 :: a8 :: a9 :: b :: ls) (k := 9) hz]
  exact hk
theorem s_stN10 (ok : zOK M P) {a0 a1 a2 a3 a4 a5 a6 a7 a8 a9 : Option Value} {b : Option Value} (hP : P pc = oStA 10 nx) (hz : znl a9 = true) (hk : zGo E d M mc ms Q nx (a0 :: a1 :: a2 :: a3 :: a4 :: a5 :: a6 :: a7 :: a8 :: a9 :: some (.null) :: ls, st, σ, bc, bs)) : zGo E d M mc ms Q pc (a0 :: a1 :: a2 :: a3 :: a4 :: a5 :: a6 :: a7 :: a8 :: a9 :: b :: ls, .null :: st, σ, bc, bs) := by
  refine zstep ok hP ?_
  show zGo E d M mc ms Q nx (zset (zclr (a0 :: a1 :: a2 :: a3 :: a4 :: a5 :: a6 :: a7 :: a8 :: a9 :: b :: ls) 10) 10 (some (.null)), st, σ, bc, bs)
  rw [zclr_id (ls := a0 :: a1 :: a2 :: a3 :: a4 :: a5 :: a6 :: a7 :: a8 :: a9 :: b :: ls) (k := 9) hz]
  exact hk
theorem s_inc10 (ok : zOK M P) {a0 a1 a2 a3 a4 a5 a6 a7 a8 a9 : Option Value} {a m : Int} (hP : P pc = oInc 10 (iI m) nx) (hz : znl a9 = true) (hk : zGo E d M mc ms Q nx (a0 :: a1 :: a2 :: a3 :: a4 :: a5 :: a6 :: a7 :: a8 :: a9 :: some (.int (iI (a + m))) :: ls, st, σ, bc, bs)) : zGo E d M mc ms Q pc (a0 :: a1 :: a2 :: a3 :: a4 :: a5 :: a6 :: a7 :: a8 :: a9 :: some (.int (iI a)) :: ls, st, σ, bc, bs) := by
  refine zstep ok hP ?_
  show zGo E d M mc ms Q nx (zset (zclr (a0 :: a1 :: a2 :: a3 :: a4 :: a5 :: a6 :: a7 :: a8 :: a9 :: some (.int (iI a)) :: ls) 10) 10 (some (.int (iI a + iI m))), st, σ, bc, bs)
  rw [zclr_id (ls := a0 :: a1 :: a2 :: a3 :: a4 :: a5 :: a6 :: a7 :: a8 :: a9 :: some (.int (iI a)) :: ls) (k := 9) hz, iI_add]
  exact hk
theorem s_stL4 (ok : zOK M P) {a0 a1 a2 a3 b b2 : Option Value} {x : Int64} (hP : P pc = oStL 4 nx) (hz : znl a3 = true) (hk : zGo E d M mc ms Q nx (a0 :: a1 :: a2 :: a3 :: some (.long x) :: none :: ls, st, σ, bc, bs)) : zGo E d M mc ms Q pc (a0 :: a1 :: a2 :: a3 :: b :: b2 :: ls, .long x :: st, σ, bc, bs) := by
  refine zstep ok hP ?_
  show zGo E d M mc ms Q nx (zset (zset (zclr (a0 :: a1 :: a2 :: a3 :: b :: b2 :: ls) 4) 4 (some (.long x))) 5 none, st, σ, bc, bs)
  rw [zclr_id (ls := a0 :: a1 :: a2 :: a3 :: b :: b2 :: ls) (k := 3) hz]
  exact hk
theorem s_stL6 (ok : zOK M P) {a0 a1 a2 a3 a4 a5 b b2 : Option Value} {x : Int64} (hP : P pc = oStL 6 nx) (hz : znl a5 = true) (hk : zGo E d M mc ms Q nx (a0 :: a1 :: a2 :: a3 :: a4 :: a5 :: some (.long x) :: none :: ls, st, σ, bc, bs)) : zGo E d M mc ms Q pc (a0 :: a1 :: a2 :: a3 :: a4 :: a5 :: b :: b2 :: ls, .long x :: st, σ, bc, bs) := by
  refine zstep ok hP ?_
  show zGo E d M mc ms Q nx (zset (zset (zclr (a0 :: a1 :: a2 :: a3 :: a4 :: a5 :: b :: b2 :: ls) 6) 6 (some (.long x))) 7 none, st, σ, bc, bs)
  rw [zclr_id (ls := a0 :: a1 :: a2 :: a3 :: a4 :: a5 :: b :: b2 :: ls) (k := 5) hz]
  exact hk
theorem s_stL8 (ok : zOK M P) {a0 a1 a2 a3 a4 a5 a6 a7 b b2 : Option Value} {x : Int64} (hP : P pc = oStL 8 nx) (hz : znl a7 = true) (hk : zGo E d M mc ms Q nx (a0 :: a1 :: a2 :: a3 :: a4 :: a5 :: a6 :: a7 :: some (.long x) :: none :: ls, st, σ, bc, bs)) : zGo E d M mc ms Q pc (a0 :: a1 :: a2 :: a3 :: a4 :: a5 :: a6 :: a7 :: b :: b2 :: ls, .long x :: st, σ, bc, bs) := by
  refine zstep ok hP ?_
  show zGo E d M mc ms Q nx (zset (zset (zclr (a0 :: a1 :: a2 :: a3 :: a4 :: a5 :: a6 :: a7 :: b :: b2 :: ls) 8) 8 (some (.long x))) 9 none, st, σ, bc, bs)
  rw [zclr_id (ls := a0 :: a1 :: a2 :: a3 :: a4 :: a5 :: a6 :: a7 :: b :: b2 :: ls) (k := 7) hz]
  exact hk
theorem s_ci (ok : zOK M P) {x : Int32} (hP : P pc = oCI x nx) (hk : zGo E d M mc ms Q nx (ls, .int x :: st, σ, bc, bs)) : zGo E d M mc ms Q pc (ls, st, σ, bc, bs) := zstep ok hP hk
theorem s_cl (ok : zOK M P) {x : Int64} (hP : P pc = oCL x nx) (hk : zGo E d M mc ms Q nx (ls, .long x :: st, σ, bc, bs)) : zGo E d M mc ms Q pc (ls, st, σ, bc, bs) := zstep ok hP hk
theorem s_null (ok : zOK M P) (hP : P pc = oNull nx) (hk : zGo E d M mc ms Q nx (ls, .null :: st, σ, bc, bs)) : zGo E d M mc ms Q pc (ls, st, σ, bc, bs) := zstep ok hP hk
theorem s_add (ok : zOK M P) {a b : Int} (hP : P pc = oBin (fun x y => x + y) nx) (hk : zGo E d M mc ms Q nx (ls, .int (iI (a + b)) :: st, σ, bc, bs)) : zGo E d M mc ms Q pc (ls, .int (iI b) :: .int (iI a) :: st, σ, bc, bs) := by
  refine zstep ok hP ?_
  show zGo E d M mc ms Q nx (ls, .int (iI a + iI b) :: st, σ, bc, bs)
  rw [iI_add]
  exact hk
theorem s_sub (ok : zOK M P) {a b : Int} (hP : P pc = oBin (fun x y => x - y) nx) (hk : zGo E d M mc ms Q nx (ls, .int (iI (a - b)) :: st, σ, bc, bs)) : zGo E d M mc ms Q pc (ls, .int (iI b) :: .int (iI a) :: st, σ, bc, bs) := by
  refine zstep ok hP ?_
  show zGo E d M mc ms Q nx (ls, .int (iI a - iI b) :: st, σ, bc, bs)
  rw [iI_sub]
  exact hk
theorem s_mul (ok : zOK M P) {a b : Int} (hP : P pc = oBin (fun x y => x * y) nx) (hk : zGo E d M mc ms Q nx (ls, .int (iI (a * b)) :: st, σ, bc, bs)) : zGo E d M mc ms Q pc (ls, .int (iI b) :: .int (iI a) :: st, σ, bc, bs) := by
  refine zstep ok hP ?_
  show zGo E d M mc ms Q nx (ls, .int (iI a * iI b) :: st, σ, bc, bs)
  rw [iI_mul]
  exact hk
theorem s_div (ok : zOK M P) {a b : Int} (hP : P pc = oDiv (fun x y => x / y) nx) (ha : zb a) (hb : zb b) (h0 : 0 ≤ a) (h1 : 0 < b) (hk : zGo E d M mc ms Q nx (ls, .int (iI (a / b)) :: st, σ, bc, bs)) : zGo E d M mc ms Q pc (ls, .int (iI b) :: .int (iI a) :: st, σ, bc, bs) := by
  refine zstep ok hP ?_
  have hn : ¬ iI b = 0 := fun e => by rw [iI_0, iI_eq hb ⟨by omega, by omega⟩] at e; omega
  refine ⟨hn, ?_⟩
  dsimp only
  rw [iI_div ha hb h0 h1]
  exact hk
theorem s_rem (ok : zOK M P) {a b : Int} (hP : P pc = oDiv (fun x y => x - x / y * y) nx) (ha : zb a) (hb : zb b) (h0 : 0 ≤ a) (h1 : 0 < b) (hk : zGo E d M mc ms Q nx (ls, .int (iI (a % b)) :: st, σ, bc, bs)) : zGo E d M mc ms Q pc (ls, .int (iI b) :: .int (iI a) :: st, σ, bc, bs) := by
  refine zstep ok hP ?_
  have hn : ¬ iI b = 0 := fun e => by rw [iI_0, iI_eq hb ⟨by omega, by omega⟩] at e; omega
  refine ⟨hn, ?_⟩
  dsimp only
  rw [iI_rem ha hb h0 h1]
  exact hk
theorem s_bin (ok : zOK M P) {f : Int32 → Int32 → Int32} {x y v : Int32} (hP : P pc = oBin f nx) (hv : f x y = v) (hk : zGo E d M mc ms Q nx (ls, .int v :: st, σ, bc, bs)) : zGo E d M mc ms Q pc (ls, .int y :: .int x :: st, σ, bc, bs) := zstep ok hP (by subst hv; exact hk)
theorem s_i2i (ok : zOK M P) {f : Int32 → Int32} {x v : Int32} (hP : P pc = oI2I f nx) (hv : f x = v) (hk : zGo E d M mc ms Q nx (ls, .int v :: st, σ, bc, bs)) : zGo E d M mc ms Q pc (ls, .int x :: st, σ, bc, bs) := zstep ok hP (by subst hv; exact hk)
theorem s_i2l (ok : zOK M P) {x : Int32} (hP : P pc = oI2L nx) (hk : zGo E d M mc ms Q nx (ls, .long x.toInt64 :: st, σ, bc, bs)) : zGo E d M mc ms Q pc (ls, .int x :: st, σ, bc, bs) := zstep ok hP hk
theorem s_lcmp (ok : zOK M P) {x y : Int64} (hP : P pc = oLcmp nx) (hk : zGo E d M mc ms Q nx (ls, .int (lg_cmp x y) :: st, σ, bc, bs)) : zGo E d M mc ms Q pc (ls, .long y :: .long x :: st, σ, bc, bs) := zstep ok hP hk
theorem s_ldv (ok : zOK M P) {f : Int64 → Int64 → Int64} {x y v : Int64} (hP : P pc = oLDiv f nx) (hn : ¬ y = 0) (hv : f x y = v) (hk : zGo E d M mc ms Q nx (ls, .long v :: st, σ, bc, bs)) : zGo E d M mc ms Q pc (ls, .long y :: .long x :: st, σ, bc, bs) := zstep ok hP (by subst hv; exact ⟨hn, hk⟩)
theorem s_dupI (ok : zOK M P) {x : Int32} (hP : P pc = oDup nx) (hk : zGo E d M mc ms Q nx (ls, .int x :: .int x :: st, σ, bc, bs)) : zGo E d M mc ms Q pc (ls, .int x :: st, σ, bc, bs) := zstep ok hP hk
theorem s_dupA (ok : zOK M P) {x : Nat} (hP : P pc = oDup nx) (hk : zGo E d M mc ms Q nx (ls, .ref x :: .ref x :: st, σ, bc, bs)) : zGo E d M mc ms Q pc (ls, .ref x :: st, σ, bc, bs) := zstep ok hP hk
theorem s_dup2 (ok : zOK M P) {x : Nat} {y : Int32} (hP : P pc = oDup2 nx) (hk : zGo E d M mc ms Q nx (ls, .int y :: .ref x :: .int y :: .ref x :: st, σ, bc, bs)) : zGo E d M mc ms Q pc (ls, .int y :: .ref x :: st, σ, bc, bs) := zstep ok hP hk
theorem s_popI (ok : zOK M P) {x : Int32} (hP : P pc = oPop nx) (hk : zGo E d M mc ms Q nx (ls, st, σ, bc, bs)) : zGo E d M mc ms Q pc (ls, .int x :: st, σ, bc, bs) := zstep ok hP hk
theorem s_popA (ok : zOK M P) {x : Nat} (hP : P pc = oPop nx) (hk : zGo E d M mc ms Q nx (ls, st, σ, bc, bs)) : zGo E d M mc ms Q pc (ls, .ref x :: st, σ, bc, bs) := zstep ok hP hk
theorem s_goto (ok : zOK M P) (hP : P pc = oGoto tg) (hk : zGo E d M mc ms Q tg (ls, st, σ, bc, bs)) : zGo E d M mc ms Q pc (ls, st, σ, bc, bs) := zstep ok hP hk
theorem s_nullN (ok : zOK M P) (hP : P pc = oIfNull tg nx) (hk : zGo E d M mc ms Q tg (ls, st, σ, bc, bs)) : zGo E d M mc ms Q pc (ls, .null :: st, σ, bc, bs) := zstep ok hP hk
theorem s_nullR (ok : zOK M P) {x : Nat} (hP : P pc = oIfNull tg nx) (hk : zGo E d M mc ms Q nx (ls, st, σ, bc, bs)) : zGo E d M mc ms Q pc (ls, .ref x :: st, σ, bc, bs) := zstep ok hP hk
theorem s_if_eq (ok : zOK M P) {a : Int} (hP : P pc = oIf (fun x => x = 0) tg nx) (ha : zb a) (ht : a = 0 → zGo E d M mc ms Q tg (ls, st, σ, bc, bs)) (hf : ¬ a = 0 → zGo E d M mc ms Q nx (ls, st, σ, bc, bs)) : zGo E d M mc ms Q pc (ls, .int (iI a) :: st, σ, bc, bs) := by
  have z0 : zb 0 := ⟨by omega, by omega⟩
  refine zstep ok hP ⟨fun q => ht ?_, fun q => hf ?_⟩
  · dsimp only at q; rw [iI_0] at q; exact (iI_eq ha z0).mp q
  · dsimp only at q; rw [iI_0, iI_eq ha z0] at q; omega
theorem s_if_lt (ok : zOK M P) {a : Int} (hP : P pc = oIf (fun x => x < 0) tg nx) (ha : zb a) (ht : a < 0 → zGo E d M mc ms Q tg (ls, st, σ, bc, bs)) (hf : 0 ≤ a → zGo E d M mc ms Q nx (ls, st, σ, bc, bs)) : zGo E d M mc ms Q pc (ls, .int (iI a) :: st, σ, bc, bs) := by
  have z0 : zb 0 := ⟨by omega, by omega⟩
  refine zstep ok hP ⟨fun q => ht ?_, fun q => hf ?_⟩
  · dsimp only at q; rw [iI_0] at q; exact (iI_lt ha z0).mp q
  · dsimp only at q; rw [iI_0, iI_lt ha z0] at q; omega
theorem s_if_ge (ok : zOK M P) {a : Int} (hP : P pc = oIf (fun x => 0 ≤ x) tg nx) (ha : zb a) (ht : 0 ≤ a → zGo E d M mc ms Q tg (ls, st, σ, bc, bs)) (hf : a < 0 → zGo E d M mc ms Q nx (ls, st, σ, bc, bs)) : zGo E d M mc ms Q pc (ls, .int (iI a) :: st, σ, bc, bs) := by
  have z0 : zb 0 := ⟨by omega, by omega⟩
  refine zstep ok hP ⟨fun q => ht ?_, fun q => hf ?_⟩
  · dsimp only at q; rw [iI_0] at q; exact (iI_le z0 ha).mp q
  · dsimp only at q; rw [iI_0, iI_le z0 ha] at q; omega
theorem s_if_gt (ok : zOK M P) {a : Int} (hP : P pc = oIf (fun x => 0 < x) tg nx) (ha : zb a) (ht : 0 < a → zGo E d M mc ms Q tg (ls, st, σ, bc, bs)) (hf : a ≤ 0 → zGo E d M mc ms Q nx (ls, st, σ, bc, bs)) : zGo E d M mc ms Q pc (ls, .int (iI a) :: st, σ, bc, bs) := by
  have z0 : zb 0 := ⟨by omega, by omega⟩
  refine zstep ok hP ⟨fun q => ht ?_, fun q => hf ?_⟩
  · dsimp only at q; rw [iI_0] at q; exact (iI_lt z0 ha).mp q
  · dsimp only at q; rw [iI_0, iI_lt z0 ha] at q; omega
theorem s_if_le (ok : zOK M P) {a : Int} (hP : P pc = oIf (fun x => x ≤ 0) tg nx) (ha : zb a) (ht : a ≤ 0 → zGo E d M mc ms Q tg (ls, st, σ, bc, bs)) (hf : 0 < a → zGo E d M mc ms Q nx (ls, st, σ, bc, bs)) : zGo E d M mc ms Q pc (ls, .int (iI a) :: st, σ, bc, bs) := by
  have z0 : zb 0 := ⟨by omega, by omega⟩
  refine zstep ok hP ⟨fun q => ht ?_, fun q => hf ?_⟩
  · dsimp only at q; rw [iI_0] at q; exact (iI_le ha z0).mp q
  · dsimp only at q; rw [iI_0, iI_le ha z0] at q; omega
theorem s_c_eq (ok : zOK M P) {a b : Int} (hP : P pc = oCmp (fun x y => x = y) tg nx) (ha : zb a) (hb : zb b) (ht : a = b → zGo E d M mc ms Q tg (ls, st, σ, bc, bs)) (hf : ¬ a = b → zGo E d M mc ms Q nx (ls, st, σ, bc, bs)) : zGo E d M mc ms Q pc (ls, .int (iI b) :: .int (iI a) :: st, σ, bc, bs) := by
  refine zstep ok hP ⟨fun q => ht ?_, fun q => hf ?_⟩
  · dsimp only at q; exact (iI_eq ha hb).mp q
  · dsimp only at q; rw [iI_eq ha hb] at q; omega
theorem s_c_lt (ok : zOK M P) {a b : Int} (hP : P pc = oCmp (fun x y => x < y) tg nx) (ha : zb a) (hb : zb b) (ht : a < b → zGo E d M mc ms Q tg (ls, st, σ, bc, bs)) (hf : b ≤ a → zGo E d M mc ms Q nx (ls, st, σ, bc, bs)) : zGo E d M mc ms Q pc (ls, .int (iI b) :: .int (iI a) :: st, σ, bc, bs) := by
  refine zstep ok hP ⟨fun q => ht ?_, fun q => hf ?_⟩
  · dsimp only at q; exact (iI_lt ha hb).mp q
  · dsimp only at q; rw [iI_lt ha hb] at q; omega
theorem s_c_ge (ok : zOK M P) {a b : Int} (hP : P pc = oCmp (fun x y => y ≤ x) tg nx) (ha : zb a) (hb : zb b) (ht : b ≤ a → zGo E d M mc ms Q tg (ls, st, σ, bc, bs)) (hf : a < b → zGo E d M mc ms Q nx (ls, st, σ, bc, bs)) : zGo E d M mc ms Q pc (ls, .int (iI b) :: .int (iI a) :: st, σ, bc, bs) := by
  refine zstep ok hP ⟨fun q => ht ?_, fun q => hf ?_⟩
  · dsimp only at q; exact (iI_le hb ha).mp q
  · dsimp only at q; rw [iI_le hb ha] at q; omega
theorem s_c_gt (ok : zOK M P) {a b : Int} (hP : P pc = oCmp (fun x y => y < x) tg nx) (ha : zb a) (hb : zb b) (ht : b < a → zGo E d M mc ms Q tg (ls, st, σ, bc, bs)) (hf : a ≤ b → zGo E d M mc ms Q nx (ls, st, σ, bc, bs)) : zGo E d M mc ms Q pc (ls, .int (iI b) :: .int (iI a) :: st, σ, bc, bs) := by
  refine zstep ok hP ⟨fun q => ht ?_, fun q => hf ?_⟩
  · dsimp only at q; exact (iI_lt hb ha).mp q
  · dsimp only at q; rw [iI_lt hb ha] at q; omega
theorem s_c_le (ok : zOK M P) {a b : Int} (hP : P pc = oCmp (fun x y => x ≤ y) tg nx) (ha : zb a) (hb : zb b) (ht : a ≤ b → zGo E d M mc ms Q tg (ls, st, σ, bc, bs)) (hf : b < a → zGo E d M mc ms Q nx (ls, st, σ, bc, bs)) : zGo E d M mc ms Q pc (ls, .int (iI b) :: .int (iI a) :: st, σ, bc, bs) := by
  refine zstep ok hP ⟨fun q => ht ?_, fun q => hf ?_⟩
  · dsimp only at q; exact (iI_le ha hb).mp q
  · dsimp only at q; rw [iI_le ha hb] at q; omega
theorem s_retI (ok : zOK M P) {x : Int32} (hP : P pc = oRetI false) (hk : Q (some (.int x)) σ) : zGo E d M mc ms Q pc (ls, [.int x], σ, bc, bs) := zstep ok hP ⟨(fun e => by cases e), hk⟩
theorem s_retZ (ok : zOK M P) {x : Int32} (hP : P pc = oRetI true) (hz : x = iI 0 ∨ x = iI 1) (hk : Q (some (.int x)) σ) : zGo E d M mc ms Q pc (ls, [.int x], σ, bc, bs) := zstep ok hP ⟨fun _ => hz, hk⟩
theorem s_retL (ok : zOK M P) {x : Int64} (hP : P pc = oRetL) (hk : Q (some (.long x)) σ) : zGo E d M mc ms Q pc (ls, [.long x], σ, bc, bs) := zstep ok hP hk
theorem s_retA (ok : zOK M P) {x : Nat} (hP : P pc = oRetA) (hk : Q (some (.ref x)) σ) : zGo E d M mc ms Q pc (ls, [.ref x], σ, bc, bs) := zstep ok hP hk
theorem s_retV (ok : zOK M P) (hP : P pc = oRetV) (hk : Q none σ) : zGo E d M mc ms Q pc (ls, [], σ, bc, bs) := zstep ok hP hk
theorem s_getI (ok : zOK M P) {x i c L : Nat} {cis : List Nat} (hP : P pc = oGetI i cis nx) (hq : zk σ x = (c, L)) (hm : zmem c cis = true) (hk : zGo E d M mc ms Q nx (ls, .int (zi σ x i) :: st, σ, bc, bs)) : zGo E d M mc ms Q pc (ls, .ref x :: st, σ, bc, bs) := zstep ok hP ⟨_, hq, hm, hk⟩
theorem s_getR (ok : zOK M P) {x i c L v : Nat} {cis : List Nat} (hP : P pc = oGetR i cis nx) (hq : zk σ x = (c, L)) (hm : zmem c cis = true) (hv : zr σ x i = some v) (hk : zGo E d M mc ms Q nx (ls, .ref v :: st, σ, bc, bs)) : zGo E d M mc ms Q pc (ls, .ref x :: st, σ, bc, bs) := zstep ok hP ⟨_, hq, hm, _, hv, hk⟩
theorem s_getJ (j : Int) (ok : zOK M P) {x i c L : Nat} {cis : List Nat} (hP : P pc = oGetI i cis nx) (hq : zkF k x = (c, L)) (hm : zmem c cis = true) (hj : (i : Int) = j) (hk : zGo E d M mc ms Q nx (ls, .int (iI (h x j)) :: st, zJ (k, h, r, l, n), bc, bs)) : zGo E d M mc ms Q pc (ls, .ref x :: st, zJ (k, h, r, l, n), bc, bs) := zstep ok hP ⟨_, hq, hm, by subst hj; exact hk⟩
theorem s_getF (ok : zOK M P) {x i c L v : Nat} {cis : List Nat} (hP : P pc = oGetR i cis nx) (hq : zkF k x = (c, L)) (hm : zmem c cis = true) (hv : zrF r x i = some v) (hk : zGo E d M mc ms Q nx (ls, .ref v :: st, zJ (k, h, r, l, n), bc, bs)) : zGo E d M mc ms Q pc (ls, .ref x :: st, zJ (k, h, r, l, n), bc, bs) := zstep ok hP ⟨_, hq, hm, _, hv, hk⟩
theorem zJ_I {x i : Nat} {v : Int} : zI (zJ (k, h, r, l, n)) (zu (zi (zJ (k, h, r, l, n))) x i (iI v)) = zJ (k, zv h x i v, r, l, n) := by
  show (zkF k, _, zrF r, l, n) = (zkF k, _, zrF r, l, n)
  congr 1
  congr 1
  funext a j
  show (if a = x ∧ j = i then iI v else iI (h a j)) = iI (zv h x i v a j)
  rw [zv_eq]
  by_cases e : a = x ∧ j = i
  · rw [if_pos e, if_pos ⟨e.1, by omega⟩]
  · rw [if_neg e, if_neg (by omega)]
theorem s_putJ (j : Int) (ok : zOK M P) {x i c L : Nat} {a : Int} {z : Bool} {cis : List Nat} (hP : P pc = oPutI i z cis nx) (hq : zkF k x = (c, L)) (hm : zmem c cis = true) (hj : (i : Int) = j) (hz : z = true → iI a = 0 ∨ iI a = 1) (hk : zGo E d M mc ms Q nx (ls, st, zJ (k, zv h x j a, r, l, n), bc, bs)) : zGo E d M mc ms Q pc (ls, .int (iI a) :: .ref x :: st, zJ (k, h, r, l, n), bc, bs) := by
  subst hj
  refine zstep ok hP ⟨_, hq, hm, hz, ?_⟩
  dsimp only
  rw [zJ_I]
  exact hk
theorem zix9 {a : Int} {L : Nat} (h0 : 0 ≤ a) (h1 : a < L) : iI a = nI a.toNat ∧ a.toNat < L ∧ ((a.toNat : Nat) : Int) = a := ⟨by rw [iI_nat]; congr 1; omega, by omega, by omega⟩
theorem s_iald (ok : zOK M P) {x L t : Nat} {a : Int} (hP : P pc = oIald t nx) (hq : zkF k x = (t, L)) (hL : Nat.ble L 100000 = true) (h0 : 0 ≤ a) (h1 : a < L) (hk : zGo E d M mc ms Q nx (ls, .int (iI (h x a)) :: st, zJ (k, h, r, l, n), bc, bs)) : zGo E d M mc ms Q pc (ls, .int (iI a) :: .ref x :: st, zJ (k, h, r, l, n), bc, bs) := by
  obtain ⟨e1, e2, e3⟩ := zix9 h0 h1
  refine zstep ok hP ⟨a.toNat, L, hq, Nat.le_of_ble_eq_true hL, e1, e2, ?_⟩
  show zGo E d M mc ms Q nx (ls, .int (iI (h x ((a.toNat : Nat) : Int))) :: st, zJ (k, h, r, l, n), bc, bs)
  rw [e3]
  exact hk
theorem s_iast (ok : zOK M P) {x L t : Nat} {a v : Int} {z : Bool} (hP : P pc = oIast t z nx) (hq : zkF k x = (t, L)) (hL : Nat.ble L 100000 = true) (h0 : 0 ≤ a) (h1 : a < L) (hz : z = true → iI v = 0 ∨ iI v = 1) (hk : zGo E d M mc ms Q nx (ls, st, zJ (k, zv h x a v, r, l, n), bc, bs)) : zGo E d M mc ms Q pc (ls, .int (iI v) :: .int (iI a) :: .ref x :: st, zJ (k, h, r, l, n), bc, bs) := by
  obtain ⟨e1, e2, e3⟩ := zix9 h0 h1
  refine zstep ok hP ⟨a.toNat, L, hq, Nat.le_of_ble_eq_true hL, e1, e2, hz, ?_⟩
  dsimp only
  rw [zJ_I, e3]
  exact hk
theorem s_aald (ok : zOK M P) {x L t v : Nat} {a : Int} (hP : P pc = oAald t nx) (hq : zkF k x = (t, L)) (hL : Nat.ble L 100000 = true) (hx : zfin x = false) (h0 : 0 ≤ a) (h1 : a < L) (hv : r x a = some v) (hk : zGo E d M mc ms Q nx (ls, .ref v :: st, zJ (k, h, r, l, n), bc, bs)) : zGo E d M mc ms Q pc (ls, .int (iI a) :: .ref x :: st, zJ (k, h, r, l, n), bc, bs) := by
  obtain ⟨e1, e2, e3⟩ := zix9 h0 h1
  refine zstep ok hP ⟨a.toNat, L, hq, Nat.le_of_ble_eq_true hL, e1, e2, some v, ?_, hk⟩
  show cond (zfin x) _ (r x ((a.toNat : Nat) : Int)) = _
  rw [hx, e3]
  exact hv
theorem s_aaldN (ok : zOK M P) {x L t : Nat} {a : Int} (hP : P pc = oAald t nx) (hq : zkF k x = (t, L)) (hL : Nat.ble L 100000 = true) (hx : zfin x = false) (h0 : 0 ≤ a) (h1 : a < L) (hv : r x a = none) (hk : zGo E d M mc ms Q nx (ls, .null :: st, zJ (k, h, r, l, n), bc, bs)) : zGo E d M mc ms Q pc (ls, .int (iI a) :: .ref x :: st, zJ (k, h, r, l, n), bc, bs) := by
  obtain ⟨e1, e2, e3⟩ := zix9 h0 h1
  refine zstep ok hP ⟨a.toNat, L, hq, Nat.le_of_ble_eq_true hL, e1, e2, none, ?_, hk⟩
  show cond (zfin x) _ (r x ((a.toNat : Nat) : Int)) = _
  rw [hx, e3]
  exact hv
theorem zJ_R {x i : Nat} {v : Option Nat} (hx : zfin x = false) : zR (zJ (k, h, r, l, n)) (zu (zr (zJ (k, h, r, l, n))) x i v) = zJ (k, h, zv r x i v, l, n) := by
  show (zkF k, _, _, l, n) = (zkF k, _, zrF (zv r x i v), l, n)
  congr 1
  congr 1
  congr 1
  funext a j
  show (if a = x ∧ j = i then v else zrF r a j) = cond (zfin a) _ (zv r x i v a j)
  rw [zv_eq]
  by_cases e : a = x ∧ j = i
  · rw [if_pos e, if_pos ⟨e.1, by omega⟩, e.1, hx]
    rfl
  · rw [if_neg e, if_neg (by omega)]
    rfl
theorem s_aast (ok : zOK M P) {x L t v c Lc : Nat} {a : Int} {cis : List Nat} (hP : P pc = oAast t cis nx) (hq : zkF k x = (t, L)) (hL : Nat.ble L 100000 = true) (hx : zfin x = false) (h0 : 0 ≤ a) (h1 : a < L) (hv : zkF k v = (c, Lc)) (hm : zmem c cis = true) (hk : zGo E d M mc ms Q nx (ls, st, zJ (k, h, zv r x a (some v), l, n), bc, bs)) : zGo E d M mc ms Q pc (ls, .ref v :: .int (iI a) :: .ref x :: st, zJ (k, h, r, l, n), bc, bs) := by
  obtain ⟨e1, e2, e3⟩ := zix9 h0 h1
  refine zstep ok hP ⟨a.toNat, L, _, hq, Nat.le_of_ble_eq_true hL, e1, e2, hv, hm, ?_⟩
  dsimp only
  rw [zJ_R hx, e3]
  exact hk
theorem s_aastN (ok : zOK M P) {x L t : Nat} {a : Int} {cis : List Nat} (hP : P pc = oAast t cis nx) (hq : zkF k x = (t, L)) (hL : Nat.ble L 100000 = true) (hx : zfin x = false) (h0 : 0 ≤ a) (h1 : a < L) (hk : zGo E d M mc ms Q nx (ls, st, zJ (k, h, zv r x a none, l, n), bc, bs)) : zGo E d M mc ms Q pc (ls, .null :: .int (iI a) :: .ref x :: st, zJ (k, h, r, l, n), bc, bs) := by
  obtain ⟨e1, e2, e3⟩ := zix9 h0 h1
  refine zstep ok hP ⟨a.toNat, L, hq, Nat.le_of_ble_eq_true hL, e1, e2, ?_⟩
  dsimp only
  rw [zJ_R hx, e3]
  exact hk
theorem s_alen (ok : zOK M P) {x L t : Nat} (hP : P pc = oAlen t nx) (hq : zkF k x = (t, L)) (hk : zGo E d M mc ms Q nx (ls, .int (iI L) :: st, zJ (k, h, r, l, n), bc, bs)) : zGo E d M mc ms Q pc (ls, .ref x :: st, zJ (k, h, r, l, n), bc, bs) := zstep ok hP ⟨L, hq, by rw [iI_nat]; exact hk⟩
theorem s_gets (ok : zOK M P) {i : Nat} (hP : P pc = oGetS i nx) (hk : zGo E d M mc ms Q nx (ls, .ref i :: st, σ, bc, bs)) : zGo E d M mc ms Q pc (ls, st, σ, bc, bs) := zstep ok hP hk
theorem s_max (ok : zOK M P) {e9 : Nat} {a b : Int} (hd : d = e9 + 1) (hP : P pc = oMax nx) (hc : Nat.ble (zcat st) 8 = true) (ha : zb a) (hb : zb b) (hk : zGo E d M mc ms Q nx (ls, .int (iI (if a < b then b else a)) :: st, σ, bc, bs)) : zGo E d M mc ms Q pc (ls, .int (iI b) :: .int (iI a) :: st, σ, bc, bs) := by
  subst hd
  refine zstep ok hP ?_
  show (match Nat.ble (zcat st) 8 with | true => _ | false => _)
  rw [hc]
  show zGo E (e9 + 1) M mc ms Q nx (ls, .int (if iI a < iI b then iI b else iI a) :: st, σ, bc, bs)
  by_cases q : a < b
  · rw [if_pos ((iI_lt ha hb).mpr q)]; rw [if_pos q] at hk; exact hk
  · rw [if_neg (fun z => q ((iI_lt ha hb).mp z))]; rw [if_neg q] at hk; exact hk
theorem s_min (ok : zOK M P) {e9 : Nat} {a b : Int} (hd : d = e9 + 1) (hP : P pc = oMin nx) (hc : Nat.ble (zcat st) 8 = true) (ha : zb a) (hb : zb b) (hk : zGo E d M mc ms Q nx (ls, .int (iI (if b < a then b else a)) :: st, σ, bc, bs)) : zGo E d M mc ms Q pc (ls, .int (iI b) :: .int (iI a) :: st, σ, bc, bs) := by
  subst hd
  refine zstep ok hP ?_
  show (match Nat.ble (zcat st) 8 with | true => _ | false => _)
  rw [hc]
  show zGo E (e9 + 1) M mc ms Q nx (ls, .int (if iI b < iI a then iI b else iI a) :: st, σ, bc, bs)
  by_cases q : b < a
  · rw [if_pos ((iI_lt hb ha).mpr q)]; rw [if_pos q] at hk; exact hk
  · rw [if_neg (fun z => q ((iI_lt hb ha).mp z))]; rw [if_neg q] at hk; exact hk
/-! calls whose contract says just what comes -/
theorem s_callS (ok : zOK M P) {e9 na : Nat} {M' : zM} {v : Value} {σ' : zS} {as rest : List Value} (hd : d = e9 + 1) (hP : P pc = oCallS na M' nx) (hp : zpop na [] st = some (as, rest)) (hc : Nat.ble (zcat rest) 8 = true) (hM : zCT E e9 M' as σ 0 0 (zV v σ')) (hk : zGo E d M mc ms Q nx (ls, v :: rest, σ', bc, bs)) : zGo E d M mc ms Q pc (ls, st, σ, bc, bs) := by
  subst hd
  refine zstep ok hP ?_
  dsimp only [oCallS]
  rw [hp]
  dsimp only
  rw [hc]
  exact ⟨0, 0, _, Nat.zero_le _, Nat.zero_le _, hM, fun q s ⟨e1, e2⟩ => by subst e1; subst e2; exact hk⟩
theorem s_callSv (ok : zOK M P) {e9 na : Nat} {M' : zM} {σ' : zS} {as rest : List Value} (hd : d = e9 + 1) (hP : P pc = oCallS na M' nx) (hp : zpop na [] st = some (as, rest)) (hc : Nat.ble (zcat rest) 8 = true) (hM : zCT E e9 M' as σ 0 0 (zU σ')) (hk : zGo E d M mc ms Q nx (ls, rest, σ', bc, bs)) : zGo E d M mc ms Q pc (ls, st, σ, bc, bs) := by
  subst hd
  refine zstep ok hP ?_
  dsimp only [oCallS]
  rw [hp]
  dsimp only
  rw [hc]
  exact ⟨0, 0, _, Nat.zero_le _, Nat.zero_le _, hM, fun q s ⟨e1, e2⟩ => by subst e1; subst e2; exact hk⟩
theorem s_callV (ok : zOK M P) {e9 na x c L : Nat} {tgs : List (Nat × zM)} {M' : zM} {v : Value} {σ' : zS} {as rest : List Value} (hd : d = e9 + 1) (hP : P pc = oCallV na tgs nx) (hp : zpop na [] st = some (as, .ref x :: rest)) (hc : Nat.ble (zcat rest) 8 = true) (hq : zk σ x = (c, L)) (hf : zfind tgs c = some M') (hM : zCT E e9 M' (.ref x :: as) σ 0 0 (zV v σ')) (hk : zGo E d M mc ms Q nx (ls, v :: rest, σ', bc, bs)) : zGo E d M mc ms Q pc (ls, st, σ, bc, bs) := by
  subst hd
  refine zstep ok hP ?_
  dsimp only [oCallV]
  rw [hp]
  dsimp only
  rw [hc]
  exact ⟨_, _, hq, hf, 0, 0, _, Nat.zero_le _, Nat.zero_le _, hM, fun q s ⟨e1, e2⟩ => by subst e1; subst e2; exact hk⟩
theorem s_callVv (ok : zOK M P) {e9 na x c L : Nat} {tgs : List (Nat × zM)} {M' : zM} {σ' : zS} {as rest : List Value} (hd : d = e9 + 1) (hP : P pc = oCallV na tgs nx) (hp : zpop na [] st = some (as, .ref x :: rest)) (hc : Nat.ble (zcat rest) 8 = true) (hq : zk σ x = (c, L)) (hf : zfind tgs c = some M') (hM : zCT E e9 M' (.ref x :: as) σ 0 0 (zU σ')) (hk : zGo E d M mc ms Q nx (ls, rest, σ', bc, bs)) : zGo E d M mc ms Q pc (ls, st, σ, bc, bs) := by
  subst hd
  refine zstep ok hP ?_
  dsimp only [oCallV]
  rw [hp]
  dsimp only
  rw [hc]
  exact ⟨_, _, hq, hf, 0, 0, _, Nat.zero_le _, Nat.zero_le _, hM, fun q s ⟨e1, e2⟩ => by subst e1; subst e2; exact hk⟩
theorem s_callU (ok : zOK M P) {e9 na x c L : Nat} {M' : zM} {v : Value} {σ' : zS} {as rest : List Value} (hd : d = e9 + 1) (hP : P pc = oCallU na M' nx) (hp : zpop na [] st = some (as, .ref x :: rest)) (hc : Nat.ble (zcat rest) 8 = true) (hq : zk σ x = (c, L)) (hf : Nat.blt c 16 = true) (hM : zCT E e9 M' (.ref x :: as) σ 0 0 (zV v σ')) (hk : zGo E d M mc ms Q nx (ls, v :: rest, σ', bc, bs)) : zGo E d M mc ms Q pc (ls, st, σ, bc, bs) := by
  subst hd
  refine zstep ok hP ?_
  dsimp only [oCallU]
  rw [hp]
  dsimp only
  rw [hc]
  exact ⟨_, hq, Nat.le_of_ble_eq_true hf, 0, 0, _, Nat.zero_le _, Nat.zero_le _, hM, fun q s ⟨e1, e2⟩ => by subst e1; subst e2; exact hk⟩
theorem s_sw (ok : zOK M P) {x : Int32} {ps : List (Int32 × Nat)} {d9 : Nat} (hP : P pc = oSw ps d9) (hk : zsw x d9 (fun t => zGo E d M mc ms Q t (ls, st, σ, bc, bs)) ps) : zGo E d M mc ms Q pc (ls, .int x :: st, σ, bc, bs) := zstep ok hP hk
theorem zsw_c {a b : Int} {d9 t : Nat} {R : Nat → Prop} {ps : List (Int32 × Nat)} (ha : zb a) (hb : zb b) (ht : a = b → R t) (hf : ¬ a = b → zsw (iI a) d9 R ps) : zsw (iI a) d9 R ((iI b, t) :: ps) := ⟨fun q => ht ((iI_eq ha hb).mp q), fun q => hf (fun e => q (by rw [e]))⟩
end ZS
