/-! Steps that touch no heap: each a step o.. and its soundness snd_.. -/
def oLdI (k nx : Nat) : zOp := fun _ _ _ c K => match zg c.1 k with
  | some (.int x) => K nx (c.1, .int x :: c.2.1, c.2.2)
  | _ => False
theorem snd_ldIn {M : zM} {pc : Nat} {i : Nat} {k9 : Fin 4} (hi : (k9 : Nat) = i) (hd : decode M.2.1 pc = .ok (.iload_n k9, 1)) : zSnd M pc (oLdI i (pc + 1)) := by
  intro E d Q mc ms c K hK h p e s m args below meth cd X H locs A hR hL hF h1 h2
  obtain ⟨ls, st, σ, bc, bs⟩ := c
  have hx := X.1
  have hb := X.2.1
  dsimp only [oLdI] at h
  split at h
  · next x hx9 =>
    exact lv_iload_n hx hb hd hi (hL.get hx9) (hK _ _ h p e s m args below meth cd X H locs A hR hL hF h1 h2)
  · exact h.elim
theorem snd_ldI {M : zM} {pc : Nat} {i : Nat} (hd : decode M.2.1 pc = .ok (.iload i, 2)) : zSnd M pc (oLdI i (pc + 2)) := by
  intro E d Q mc ms c K hK h p e s m args below meth cd X H locs A hR hL hF h1 h2
  obtain ⟨ls, st, σ, bc, bs⟩ := c
  have hx := X.1
  have hb := X.2.1
  dsimp only [oLdI] at h
  split at h
  · next x hx9 =>
    exact lv_iload hx hb hd (hL.get hx9) (hK _ _ h p e s m args below meth cd X H locs A hR hL hF h1 h2)
  · exact h.elim
def oLdA (k nx : Nat) : zOp := fun _ _ _ c K => match zg c.1 k with
  | some (.ref x) => K nx (c.1, .ref x :: c.2.1, c.2.2)
  | some .null => K nx (c.1, .null :: c.2.1, c.2.2)
  | _ => False
theorem snd_ldAn {M : zM} {pc : Nat} {i : Nat} {k9 : Fin 4} (hi : (k9 : Nat) = i) (hd : decode M.2.1 pc = .ok (.aload_n k9, 1)) : zSnd M pc (oLdA i (pc + 1)) := by
  intro E d Q mc ms c K hK h p e s m args below meth cd X H locs A hR hL hF h1 h2
  obtain ⟨ls, st, σ, bc, bs⟩ := c
  have hx := X.1
  have hb := X.2.1
  dsimp only [oLdA] at h
  split at h
  · next x hx9 =>
    exact lv_aload_n hx hb hd hi (hL.get hx9) (hK _ _ h p e s m args below meth cd X H locs A hR hL hF h1 h2)
  · next hx9 =>
    exact lv_aload_nN hx hb hd hi (hL.get hx9) (hK _ _ h p e s m args below meth cd X H locs A hR hL hF h1 h2)
  · exact h.elim
theorem snd_ldA {M : zM} {pc : Nat} {i : Nat} (hd : decode M.2.1 pc = .ok (.aload i, 2)) : zSnd M pc (oLdA i (pc + 2)) := by
  intro E d Q mc ms c K hK h p e s m args below meth cd X H locs A hR hL hF h1 h2
  obtain ⟨ls, st, σ, bc, bs⟩ := c
  have hx := X.1
  have hb := X.2.1
  dsimp only [oLdA] at h
  split at h
  · next x hx9 =>
    exact lv_aload hx hb hd (hL.get hx9) (hK _ _ h p e s m args below meth cd X H locs A hR hL hF h1 h2)
  · next hx9 =>
    exact lv_aloadN hx hb hd (hL.get hx9) (hK _ _ h p e s m args below meth cd X H locs A hR hL hF h1 h2)
  · exact h.elim
def oLdL (k nx : Nat) : zOp := fun _ _ _ c K => match zg c.1 k with
  | some (.long x) => K nx (c.1, .long x :: c.2.1, c.2.2)
  | _ => False
theorem snd_ldLn {M : zM} {pc : Nat} {i : Nat} {k9 : Fin 4} (hi : (k9 : Nat) = i) (hd : decode M.2.1 pc = .ok (.lload_n k9, 1)) : zSnd M pc (oLdL i (pc + 1)) := by
  intro E d Q mc ms c K hK h p e s m args below meth cd X H locs A hR hL hF h1 h2
  obtain ⟨ls, st, σ, bc, bs⟩ := c
  have hx := X.1
  have hb := X.2.1
  dsimp only [oLdL] at h
  split at h
  · next x hx9 =>
    exact lv_lload_n hx hb hd hi (hL.get hx9) (hK _ _ h p e s m args below meth cd X H locs A hR hL hF h1 h2)
  · exact h.elim
theorem snd_ldL {M : zM} {pc : Nat} {i : Nat} (hd : decode M.2.1 pc = .ok (.lload i, 2)) : zSnd M pc (oLdL i (pc + 2)) := by
  intro E d Q mc ms c K hK h p e s m args below meth cd X H locs A hR hL hF h1 h2
  obtain ⟨ls, st, σ, bc, bs⟩ := c
  have hx := X.1
  have hb := X.2.1
  dsimp only [oLdL] at h
  split at h
  · next x hx9 =>
    exact lv_lload hx hb hd (hL.get hx9) (hK _ _ h p e s m args below meth cd X H locs A hR hL hF h1 h2)
  · exact h.elim
def oStI (k nx : Nat) : zOp := fun _ _ _ c K => match c.2.1 with
  | .int x :: st => K nx (zst c.1 k (.int x), st, c.2.2)
  | _ => False
theorem snd_stIn {M : zM} {pc : Nat} {i : Nat} {k9 : Fin 4} (hi : (k9 : Nat) = i) (hd : decode M.2.1 pc = .ok (.istore_n k9, 1)) (hn : i < M.2.2.1) : zSnd M pc (oStI i (pc + 1)) := by
  intro E d Q mc ms c K hK h p e s m args below meth cd X H locs A hR hL hF h1 h2
  obtain ⟨ls, st, σ, bc, bs⟩ := c
  have hx := X.1
  have hb := X.2.1
  dsimp only [oStI] at h
  split at h
  · next x st => exact lv_istore_n hx hb hd hi hL hn rfl (fun A9 h9 => hK _ _ h p e s m args below meth cd X H locs A9 hR (zst_mem h9) hF h1 h2)
  · exact h.elim
theorem snd_stI {M : zM} {pc : Nat} {i : Nat} (hd : decode M.2.1 pc = .ok (.istore i, 2)) (hn : i < M.2.2.1) : zSnd M pc (oStI i (pc + 2)) := by
  intro E d Q mc ms c K hK h p e s m args below meth cd X H locs A hR hL hF h1 h2
  obtain ⟨ls, st, σ, bc, bs⟩ := c
  have hx := X.1
  have hb := X.2.1
  dsimp only [oStI] at h
  split at h
  · next x st => exact lv_istore hx hb hd hL hn rfl (fun A9 h9 => hK _ _ h p e s m args below meth cd X H locs A9 hR (zst_mem h9) hF h1 h2)
  · exact h.elim
def oStA (k nx : Nat) : zOp := fun _ _ _ c K => match c.2.1 with
  | .ref x :: st => K nx (zst c.1 k (.ref x), st, c.2.2)
  | .null :: st => K nx (zst c.1 k .null, st, c.2.2)
  | _ => False
theorem snd_stAn {M : zM} {pc : Nat} {i : Nat} {k9 : Fin 4} (hi : (k9 : Nat) = i) (hd : decode M.2.1 pc = .ok (.astore_n k9, 1)) (hn : i < M.2.2.1) : zSnd M pc (oStA i (pc + 1)) := by
  intro E d Q mc ms c K hK h p e s m args below meth cd X H locs A hR hL hF h1 h2
  obtain ⟨ls, st, σ, bc, bs⟩ := c
  have hx := X.1
  have hb := X.2.1
  dsimp only [oStA] at h
  split at h
  · next x st => exact lv_astore_n hx hb hd hi hL hn rfl (fun A9 h9 => hK _ _ h p e s m args below meth cd X H locs A9 hR (zst_mem h9) hF h1 h2)
  · next st => exact lv_astore_nN hx hb hd hi hL hn rfl (fun A9 h9 => hK _ _ h p e s m args below meth cd X H locs A9 hR (zst_mem h9) hF h1 h2)
  · exact h.elim
theorem snd_stA {M : zM} {pc : Nat} {i : Nat} (hd : decode M.2.1 pc = .ok (.astore i, 2)) (hn : i < M.2.2.1) : zSnd M pc (oStA i (pc + 2)) := by
  intro E d Q mc ms c K hK h p e s m args below meth cd X H locs A hR hL hF h1 h2
  obtain ⟨ls, st, σ, bc, bs⟩ := c
  have hx := X.1
  have hb := X.2.1
  dsimp only [oStA] at h
  split at h
  · next x st => exact lv_astore hx hb hd hL hn rfl (fun A9 h9 => hK _ _ h p e s m args below meth cd X H locs A9 hR (zst_mem h9) hF h1 h2)
  · next st => exact lv_astoreN hx hb hd hL hn rfl (fun A9 h9 => hK _ _ h p e s m args below meth cd X H locs A9 hR (zst_mem h9) hF h1 h2)
  · exact h.elim
def oInc (k : Nat) (n : Int32) (nx : Nat) : zOp := fun _ _ _ c K => match zg c.1 k with
  | some (.int x) => K nx (zst c.1 k (.int (x + n)), c.2)
  | _ => False
theorem snd_inc {M : zM} {pc i : Nat} {n : Int} {v : Int32} (hd : decode M.2.1 pc = .ok (.iinc i n, 3)) (hn : i < M.2.2.1) (hv : Int32.ofInt n = v) : zSnd M pc (oInc i v (pc + 3)) := by
  intro E d Q mc ms c K hK h p e s m args below meth cd X H locs A hR hL hF h1 h2
  obtain ⟨ls, st, σ, bc, bs⟩ := c
  have hx := X.1
  have hb := X.2.1
  dsimp only [oInc] at h
  split at h
  · next x hx9 =>
    have hm := zenc_mem (E := E) (i := 0) hx9
    rw [Nat.zero_add] at hm
    obtain ⟨k, hk⟩ := List.getElem?_of_mem hm
    exact lv_iinc hx hb hd hL hk (by rw [hv]) hn rfl (fun A9 h9 => hK _ _ h p e s m args below meth cd X H locs A9 hR (zst_mem h9) hF h1 h2)
  · exact h.elim
def oCI (v : Int32) (nx : Nat) : zOp := fun _ _ _ c K => K nx (c.1, .int v :: c.2.1, c.2.2)
def oCL (v : Int64) (nx : Nat) : zOp := fun _ _ _ c K => K nx (c.1, .long v :: c.2.1, c.2.2)
def oNull (nx : Nat) : zOp := fun _ _ _ c K => K nx (c.1, .null :: c.2.1, c.2.2)
theorem snd_iconst {M : zM} {pc : Nat} {n : Int} {v : Int32} (hd : decode M.2.1 pc = .ok (.iconst n, 1)) (hv : Int32.ofInt n = v) : zSnd M pc (oCI v (pc + 1)) := by
  intro E d Q mc ms c K hK h p e s m args below meth cd X H locs A hR hL hF h1 h2
  obtain ⟨ls, st, σ, bc, bs⟩ := c
  have hx := X.1
  have hb := X.2.1
  exact lv_iconst hx hb hd hv (hK _ _ h p e s m args below meth cd X H locs A hR hL hF h1 h2)
theorem snd_bipush {M : zM} {pc : Nat} {n : Int} {v : Int32} (hd : decode M.2.1 pc = .ok (.bipush n, 2)) (hv : (Int8.ofInt n).toInt32 = v) : zSnd M pc (oCI v (pc + 2)) := by
  intro E d Q mc ms c K hK h p e s m args below meth cd X H locs A hR hL hF h1 h2
  obtain ⟨ls, st, σ, bc, bs⟩ := c
  have hx := X.1
  have hb := X.2.1
  exact lv_bipush hx hb hd hv (hK _ _ h p e s m args below meth cd X H locs A hR hL hF h1 h2)
theorem snd_sipush {M : zM} {pc : Nat} {n : Int} {v : Int32} (hd : decode M.2.1 pc = .ok (.sipush n, 3)) (hv : (Int16.ofInt n).toInt32 = v) : zSnd M pc (oCI v (pc + 3)) := by
  intro E d Q mc ms c K hK h p e s m args below meth cd X H locs A hR hL hF h1 h2
  obtain ⟨ls, st, σ, bc, bs⟩ := c
  have hx := X.1
  have hb := X.2.1
  exact lv_sipush hx hb hd hv (hK _ _ h p e s m args below meth cd X H locs A hR hL hF h1 h2)
theorem snd_lconst {M : zM} {pc : Nat} {n : Fin 2} {v : Int64} (hd : decode M.2.1 pc = .ok (.lconst n, 1)) (hv : Int64.ofNat (n : Nat) = v) : zSnd M pc (oCL v (pc + 1)) := by
  intro E d Q mc ms c K hK h p e s m args below meth cd X H locs A hR hL hF h1 h2
  obtain ⟨ls, st, σ, bc, bs⟩ := c
  have hx := X.1
  have hb := X.2.1
  exact lv_lconst hx hb hd hv (hK _ _ h p e s m args below meth cd X H locs A hR hL hF h1 h2)
theorem zTb_in {M : zM} {w : Cond} (hw : w ∈ zTb) : w ∈ zW M := List.mem_cons_of_mem _ hw
theorem snd_ldc {M : zM} {pc idx : Nat} {v : Int32} (hd : decode M.2.1 pc = .ok (.ldc idx, 2)) (hw : Cond.constant M.1.cls idx v ∈ zTb) : zSnd M pc (oCI v (pc + 2)) := by
  intro E d Q mc ms c K hK h p e s m args below meth cd X H locs A hR hL hF h1 h2
  obtain ⟨ls, st, σ, bc, bs⟩ := c
  have hx := X.1
  have hb := X.2.1
  exact lv_ldc hx hb X.2.2.2.2.2.1 (X.2.2.2.2.2.2.1 _ (zTb_in hw)) hd (hK _ _ h p e s m args below meth cd X H locs A hR hL hF h1 h2)
theorem snd_ldcw {M : zM} {pc idx : Nat} {v : Int32} (hd : decode M.2.1 pc = .ok (.ldc_w idx, 3)) (hw : Cond.constant M.1.cls idx v ∈ zTb) : zSnd M pc (oCI v (pc + 3)) := by
  intro E d Q mc ms c K hK h p e s m args below meth cd X H locs A hR hL hF h1 h2
  obtain ⟨ls, st, σ, bc, bs⟩ := c
  have hx := X.1
  have hb := X.2.1
  exact lv_ldcw hx hb X.2.2.2.2.2.1 (X.2.2.2.2.2.2.1 _ (zTb_in hw)) hd (hK _ _ h p e s m args below meth cd X H locs A hR hL hF h1 h2)
theorem snd_ldc2 {M : zM} {pc idx : Nat} {v : Int64} (hd : decode M.2.1 pc = .ok (.ldc2_w idx, 3)) (hw : Cond.constantLong M.1.cls idx v ∈ zTb) : zSnd M pc (oCL v (pc + 3)) := by
  intro E d Q mc ms c K hK h p e s m args below meth cd X H locs A hR hL hF h1 h2
  obtain ⟨ls, st, σ, bc, bs⟩ := c
  have hx := X.1
  have hb := X.2.1
  exact lv_ldc2 hx hb X.2.2.2.2.2.1 (X.2.2.2.2.2.2.1 _ (zTb_in hw)) hd (hK _ _ h p e s m args below meth cd X H locs A hR hL hF h1 h2)
theorem snd_null {M : zM} {pc : Nat} (hd : decode M.2.1 pc = .ok (.aconst_null, 1)) : zSnd M pc (oNull (pc + 1)) := by
  intro E d Q mc ms c K hK h p e s m args below meth cd X H locs A hR hL hF h1 h2
  obtain ⟨ls, st, σ, bc, bs⟩ := c
  have hx := X.1
  have hb := X.2.1
  exact lv_null hx hb hd (hK _ _ h p e s m args below meth cd X H locs A hR hL hF h1 h2)
def oBin (f : Int32 → Int32 → Int32) (nx : Nat) : zOp := fun _ _ _ c K => match c.2.1 with
  | .int y :: .int x :: st => K nx (c.1, .int (f x y) :: st, c.2.2)
  | _ => False
def oDiv (f : Int32 → Int32 → Int32) (nx : Nat) : zOp := fun _ _ _ c K => match c.2.1 with
  | .int y :: .int x :: st => (¬ y = 0) ∧ K nx (c.1, .int (f x y) :: st, c.2.2)
  | _ => False
def oLDiv (f : Int64 → Int64 → Int64) (nx : Nat) : zOp := fun _ _ _ c K => match c.2.1 with
  | .long y :: .long x :: st => (¬ y = 0) ∧ K nx (c.1, .long (f x y) :: st, c.2.2)
  | _ => False
theorem snd_iadd {M : zM} {pc : Nat} (hd : decode M.2.1 pc = .ok (.iadd, 1)) : zSnd M pc (oBin (fun x y => x + y) (pc + 1)) := by
  intro E d Q mc ms c K hK h p e s m args below meth cd X H locs A hR hL hF h1 h2
  obtain ⟨ls, st, σ, bc, bs⟩ := c
  have hx := X.1
  have hb := X.2.1
  dsimp only [oBin] at h
  split at h
  · exact lv_iadd hx hb hd (hK _ _ h p e s m args below meth cd X H locs A hR hL hF h1 h2)
  · exact h.elim
theorem snd_isub {M : zM} {pc : Nat} (hd : decode M.2.1 pc = .ok (.isub, 1)) : zSnd M pc (oBin (fun x y => x - y) (pc + 1)) := by
  intro E d Q mc ms c K hK h p e s m args below meth cd X H locs A hR hL hF h1 h2
  obtain ⟨ls, st, σ, bc, bs⟩ := c
  have hx := X.1
  have hb := X.2.1
  dsimp only [oBin] at h
  split at h
  · exact lv_isub hx hb hd (hK _ _ h p e s m args below meth cd X H locs A hR hL hF h1 h2)
  · exact h.elim
theorem snd_imul {M : zM} {pc : Nat} (hd : decode M.2.1 pc = .ok (.imul, 1)) : zSnd M pc (oBin (fun x y => x * y) (pc + 1)) := by
  intro E d Q mc ms c K hK h p e s m args below meth cd X H locs A hR hL hF h1 h2
  obtain ⟨ls, st, σ, bc, bs⟩ := c
  have hx := X.1
  have hb := X.2.1
  dsimp only [oBin] at h
  split at h
  · exact lv_imul hx hb hd (hK _ _ h p e s m args below meth cd X H locs A hR hL hF h1 h2)
  · exact h.elim
theorem snd_iand {M : zM} {pc : Nat} (hd : decode M.2.1 pc = .ok (.iand, 1)) : zSnd M pc (oBin (fun x y => x &&& y) (pc + 1)) := by
  intro E d Q mc ms c K hK h p e s m args below meth cd X H locs A hR hL hF h1 h2
  obtain ⟨ls, st, σ, bc, bs⟩ := c
  have hx := X.1
  have hb := X.2.1
  dsimp only [oBin] at h
  split at h
  · exact lv_iand hx hb hd (hK _ _ h p e s m args below meth cd X H locs A hR hL hF h1 h2)
  · exact h.elim
theorem snd_ior {M : zM} {pc : Nat} (hd : decode M.2.1 pc = .ok (.ior, 1)) : zSnd M pc (oBin (fun x y => x ||| y) (pc + 1)) := by
  intro E d Q mc ms c K hK h p e s m args below meth cd X H locs A hR hL hF h1 h2
  obtain ⟨ls, st, σ, bc, bs⟩ := c
  have hx := X.1
  have hb := X.2.1
  dsimp only [oBin] at h
  split at h
  · exact lv_ior hx hb hd (hK _ _ h p e s m args below meth cd X H locs A hR hL hF h1 h2)
  · exact h.elim
theorem snd_ixor {M : zM} {pc : Nat} (hd : decode M.2.1 pc = .ok (.ixor, 1)) : zSnd M pc (oBin (fun x y => x ^^^ y) (pc + 1)) := by
  intro E d Q mc ms c K hK h p e s m args below meth cd X H locs A hR hL hF h1 h2
  obtain ⟨ls, st, σ, bc, bs⟩ := c
  have hx := X.1
  have hb := X.2.1
  dsimp only [oBin] at h
  split at h
  · exact lv_ixor hx hb hd (hK _ _ h p e s m args below meth cd X H locs A hR hL hF h1 h2)
  · exact h.elim
theorem snd_ishl {M : zM} {pc : Nat} (hd : decode M.2.1 pc = .ok (.ishl, 1)) : zSnd M pc (oBin (fun x y => x <<< (y &&& 31)) (pc + 1)) := by
  intro E d Q mc ms c K hK h p e s m args below meth cd X H locs A hR hL hF h1 h2
  obtain ⟨ls, st, σ, bc, bs⟩ := c
  have hx := X.1
  have hb := X.2.1
  dsimp only [oBin] at h
  split at h
  · exact lv_ishl hx hb hd (hK _ _ h p e s m args below meth cd X H locs A hR hL hF h1 h2)
  · exact h.elim
theorem snd_ishr {M : zM} {pc : Nat} (hd : decode M.2.1 pc = .ok (.ishr, 1)) : zSnd M pc (oBin (fun x y => x >>> (y &&& 31)) (pc + 1)) := by
  intro E d Q mc ms c K hK h p e s m args below meth cd X H locs A hR hL hF h1 h2
  obtain ⟨ls, st, σ, bc, bs⟩ := c
  have hx := X.1
  have hb := X.2.1
  dsimp only [oBin] at h
  split at h
  · exact lv_ishr hx hb hd (hK _ _ h p e s m args below meth cd X H locs A hR hL hF h1 h2)
  · exact h.elim
theorem snd_iushr {M : zM} {pc : Nat} (hd : decode M.2.1 pc = .ok (.iushr, 1)) : zSnd M pc (oBin (fun x y => (x.toUInt32 >>> (y.toUInt32 &&& Int32.toUInt32 31)).toInt32) (pc + 1)) := by
  intro E d Q mc ms c K hK h p e s m args below meth cd X H locs A hR hL hF h1 h2
  obtain ⟨ls, st, σ, bc, bs⟩ := c
  have hx := X.1
  have hb := X.2.1
  dsimp only [oBin] at h
  split at h
  · exact lv_iushr hx hb hd rfl (hK _ _ h p e s m args below meth cd X H locs A hR hL hF h1 h2)
  · exact h.elim
theorem snd_idiv {M : zM} {pc : Nat} (hd : decode M.2.1 pc = .ok (.idiv, 1)) : zSnd M pc (oDiv (fun x y => x / y) (pc + 1)) := by
  intro E d Q mc ms c K hK h p e s m args below meth cd X H locs A hR hL hF h1 h2
  obtain ⟨ls, st, σ, bc, bs⟩ := c
  have hx := X.1
  have hb := X.2.1
  dsimp only [oDiv] at h
  split at h
  · exact lv_idiv hx hb hd h.1 (hK _ _ h.2 p e s m args below meth cd X H locs A hR hL hF h1 h2)
  · exact h.elim
theorem snd_irem {M : zM} {pc : Nat} (hd : decode M.2.1 pc = .ok (.irem, 1)) : zSnd M pc (oDiv (fun x y => x - x / y * y) (pc + 1)) := by
  intro E d Q mc ms c K hK h p e s m args below meth cd X H locs A hR hL hF h1 h2
  obtain ⟨ls, st, σ, bc, bs⟩ := c
  have hx := X.1
  have hb := X.2.1
  dsimp only [oDiv] at h
  split at h
  · exact lv_irem hx hb hd h.1 (hK _ _ h.2 p e s m args below meth cd X H locs A hR hL hF h1 h2)
  · exact h.elim
theorem snd_ldiv {M : zM} {pc : Nat} (hd : decode M.2.1 pc = .ok (.ldiv, 1)) : zSnd M pc (oLDiv (fun x y => x / y) (pc + 1)) := by
  intro E d Q mc ms c K hK h p e s m args below meth cd X H locs A hR hL hF h1 h2
  obtain ⟨ls, st, σ, bc, bs⟩ := c
  have hx := X.1
  have hb := X.2.1
  dsimp only [oLDiv] at h
  split at h
  · exact lv_ldiv hx hb hd h.1 (hK _ _ h.2 p e s m args below meth cd X H locs A hR hL hF h1 h2)
  · exact h.elim
theorem snd_lrem {M : zM} {pc : Nat} (hd : decode M.2.1 pc = .ok (.lrem, 1)) : zSnd M pc (oLDiv (fun x y => x - x / y * y) (pc + 1)) := by
  intro E d Q mc ms c K hK h p e s m args below meth cd X H locs A hR hL hF h1 h2
  obtain ⟨ls, st, σ, bc, bs⟩ := c
  have hx := X.1
  have hb := X.2.1
  dsimp only [oLDiv] at h
  split at h
  · exact lv_lrem hx hb hd h.1 (hK _ _ h.2 p e s m args below meth cd X H locs A hR hL hF h1 h2)
  · exact h.elim
def oI2L (nx : Nat) : zOp := fun _ _ _ c K => match c.2.1 with
  | .int x :: st => K nx (c.1, .long x.toInt64 :: st, c.2.2)
  | _ => False
def oI2I (f : Int32 → Int32) (nx : Nat) : zOp := fun _ _ _ c K => match c.2.1 with
  | .int x :: st => K nx (c.1, .int (f x) :: st, c.2.2)
  | _ => False
theorem snd_i2l {M : zM} {pc : Nat} (hd : decode M.2.1 pc = .ok (.i2l, 1)) : zSnd M pc (oI2L (pc + 1)) := by
  intro E d Q mc ms c K hK h p e s m args below meth cd X H locs A hR hL hF h1 h2
  obtain ⟨ls, st, σ, bc, bs⟩ := c
  have hx := X.1
  have hb := X.2.1
  dsimp only [oI2L] at h
  split at h
  · exact lv_i2l hx hb hd rfl (hK _ _ h p e s m args below meth cd X H locs A hR hL hF h1 h2)
  · exact h.elim
theorem snd_i2b {M : zM} {pc : Nat} (hd : decode M.2.1 pc = .ok (.i2b, 1)) : zSnd M pc (oI2I (fun x => x.toInt8.toInt32) (pc + 1)) := by
  intro E d Q mc ms c K hK h p e s m args below meth cd X H locs A hR hL hF h1 h2
  obtain ⟨ls, st, σ, bc, bs⟩ := c
  have hx := X.1
  have hb := X.2.1
  dsimp only [oI2I] at h
  split at h
  · exact lv_i2b hx hb hd rfl (hK _ _ h p e s m args below meth cd X H locs A hR hL hF h1 h2)
  · exact h.elim
theorem snd_i2s {M : zM} {pc : Nat} (hd : decode M.2.1 pc = .ok (.i2s, 1)) : zSnd M pc (oI2I (fun x => x.toInt16.toInt32) (pc + 1)) := by
  intro E d Q mc ms c K hK h p e s m args below meth cd X H locs A hR hL hF h1 h2
  obtain ⟨ls, st, σ, bc, bs⟩ := c
  have hx := X.1
  have hb := X.2.1
  dsimp only [oI2I] at h
  split at h
  · exact lv_i2s hx hb hd rfl (hK _ _ h p e s m args below meth cd X H locs A hR hL hF h1 h2)
  · exact h.elim
def oDup (nx : Nat) : zOp := fun _ _ _ c K => match c.2.1 with
  | .int x :: st => K nx (c.1, .int x :: .int x :: st, c.2.2)
  | .ref x :: st => K nx (c.1, .ref x :: .ref x :: st, c.2.2)
  | _ => False
theorem snd_dup {M : zM} {pc : Nat} (hd : decode M.2.1 pc = .ok (.dup, 1)) : zSnd M pc (oDup (pc + 1)) := by
  intro E d Q mc ms c K hK h p e s m args below meth cd X H locs A hR hL hF h1 h2
  obtain ⟨ls, st, σ, bc, bs⟩ := c
  have hx := X.1
  have hb := X.2.1
  dsimp only [oDup] at h
  split at h
  · exact lv_dup hx hb hd rfl (hK _ _ h p e s m args below meth cd X H locs A hR hL hF h1 h2)
  · exact lv_dup hx hb hd rfl (hK _ _ h p e s m args below meth cd X H locs A hR hL hF h1 h2)
  · exact h.elim
def oDup2 (nx : Nat) : zOp := fun _ _ _ c K => match c.2.1 with
  | .int y :: .ref x :: st => K nx (c.1, .int y :: .ref x :: .int y :: .ref x :: st, c.2.2)
  | _ => False
theorem snd_dup2 {M : zM} {pc : Nat} (hd : decode M.2.1 pc = .ok (.dup2, 1)) : zSnd M pc (oDup2 (pc + 1)) := by
  intro E d Q mc ms c K hK h p e s m args below meth cd X H locs A hR hL hF h1 h2
  obtain ⟨ls, st, σ, bc, bs⟩ := c
  have hx := X.1
  have hb := X.2.1
  dsimp only [oDup2] at h
  split at h
  · exact lv_dup2_11 hx hb hd rfl rfl (hK _ _ h p e s m args below meth cd X H locs A hR hL hF h1 h2)
  · exact h.elim
def oPop (nx : Nat) : zOp := fun _ _ _ c K => match c.2.1 with
  | .int _ :: st => K nx (c.1, st, c.2.2)
  | .ref _ :: st => K nx (c.1, st, c.2.2)
  | _ => False
theorem snd_pop {M : zM} {pc : Nat} (hd : decode M.2.1 pc = .ok (.pop, 1)) : zSnd M pc (oPop (pc + 1)) := by
  intro E d Q mc ms c K hK h p e s m args below meth cd X H locs A hR hL hF h1 h2
  obtain ⟨ls, st, σ, bc, bs⟩ := c
  have hx := X.1
  have hb := X.2.1
  dsimp only [oPop] at h
  split at h
  · exact lv_pop hx hb hd rfl (hK _ _ h p e s m args below meth cd X H locs A hR hL hF h1 h2)
  · exact lv_pop hx hb hd rfl (hK _ _ h p e s m args below meth cd X H locs A hR hL hF h1 h2)
  · exact h.elim
def oIf (f : Int32 → Prop) (tg nx : Nat) : zOp := fun _ _ _ c K => match c.2.1 with
  | .int x :: st => (f x → K tg (c.1, st, c.2.2)) ∧ (¬ f x → K nx (c.1, st, c.2.2))
  | _ => False
def oCmp (f : Int32 → Int32 → Prop) (tg nx : Nat) : zOp := fun _ _ _ c K => match c.2.1 with
  | .int y :: .int x :: st => (f x y → K tg (c.1, st, c.2.2)) ∧ (¬ f x y → K nx (c.1, st, c.2.2))
  | _ => False
theorem snd_if_ne {M : zM} {pc tg : Nat} {off : Int} (hd : decode M.2.1 pc = .ok (.ifCond .ne off, 3)) (ht : (pc : Int) + off = (tg : Int)) : zSnd M pc (oIf (fun x => x = 0) (pc + 3) tg) := by
  intro E d Q mc ms c K hK h p e s m args below meth cd X H locs A hR hL hF h1 h2
  obtain ⟨ls, st, σ, bc, bs⟩ := c
  have hx := X.1
  have hb := X.2.1
  dsimp only [oIf] at h
  split at h
  · exact lv_if_ne hx hb hd ht (fun q => hK _ _ (h.2 q) p e s m args below meth cd X H locs A hR hL hF h1 h2) (fun q => hK _ _ (h.1 q) p e s m args below meth cd X H locs A hR hL hF h1 h2)
  · exact h.elim
theorem snd_icmp_ne {M : zM} {pc tg : Nat} {off : Int} (hd : decode M.2.1 pc = .ok (.if_icmp .ne off, 3)) (ht : (pc : Int) + off = (tg : Int)) : zSnd M pc (oCmp (fun x y => x = y) (pc + 3) tg) := by
  intro E d Q mc ms c K hK h p e s m args below meth cd X H locs A hR hL hF h1 h2
  obtain ⟨ls, st, σ, bc, bs⟩ := c
  have hx := X.1
  have hb := X.2.1
  dsimp only [oCmp] at h
  split at h
  · exact lv_icmp_ne hx hb hd ht (fun q => hK _ _ (h.2 q) p e s m args below meth cd X H locs A hR hL hF h1 h2) (fun q => hK _ _ (h.1 q) p e s m args below meth cd X H locs A hR hL hF h1 h2)
  · exact h.elim
theorem snd_if_eq {M : zM} {pc tg : Nat} {off : Int} (hd : decode M.2.1 pc = .ok (.ifCond .eq off, 3)) (ht : (pc : Int) + off = (tg : Int)) : zSnd M pc (oIf (fun x => x = 0) tg (pc + 3)) := by
  intro E d Q mc ms c K hK h p e s m args below meth cd X H locs A hR hL hF h1 h2
  obtain ⟨ls, st, σ, bc, bs⟩ := c
  have hx := X.1
  have hb := X.2.1
  dsimp only [oIf] at h
  split at h
  · exact lv_if_eq hx hb hd ht (fun q => hK _ _ (h.1 q) p e s m args below meth cd X H locs A hR hL hF h1 h2) (fun q => hK _ _ (h.2 q) p e s m args below meth cd X H locs A hR hL hF h1 h2)
  · exact h.elim
theorem snd_icmp_eq {M : zM} {pc tg : Nat} {off : Int} (hd : decode M.2.1 pc = .ok (.if_icmp .eq off, 3)) (ht : (pc : Int) + off = (tg : Int)) : zSnd M pc (oCmp (fun x y => x = y) tg (pc + 3)) := by
  intro E d Q mc ms c K hK h p e s m args below meth cd X H locs A hR hL hF h1 h2
  obtain ⟨ls, st, σ, bc, bs⟩ := c
  have hx := X.1
  have hb := X.2.1
  dsimp only [oCmp] at h
  split at h
  · exact lv_icmp_eq hx hb hd ht (fun q => hK _ _ (h.1 q) p e s m args below meth cd X H locs A hR hL hF h1 h2) (fun q => hK _ _ (h.2 q) p e s m args below meth cd X H locs A hR hL hF h1 h2)
  · exact h.elim
theorem snd_if_lt {M : zM} {pc tg : Nat} {off : Int} (hd : decode M.2.1 pc = .ok (.ifCond .lt off, 3)) (ht : (pc : Int) + off = (tg : Int)) : zSnd M pc (oIf (fun x => x < 0) tg (pc + 3)) := by
  intro E d Q mc ms c K hK h p e s m args below meth cd X H locs A hR hL hF h1 h2
  obtain ⟨ls, st, σ, bc, bs⟩ := c
  have hx := X.1
  have hb := X.2.1
  dsimp only [oIf] at h
  split at h
  · exact lv_if_lt hx hb hd ht (fun q => hK _ _ (h.1 q) p e s m args below meth cd X H locs A hR hL hF h1 h2) (fun q => hK _ _ (h.2 q) p e s m args below meth cd X H locs A hR hL hF h1 h2)
  · exact h.elim
theorem snd_icmp_lt {M : zM} {pc tg : Nat} {off : Int} (hd : decode M.2.1 pc = .ok (.if_icmp .lt off, 3)) (ht : (pc : Int) + off = (tg : Int)) : zSnd M pc (oCmp (fun x y => x < y) tg (pc + 3)) := by
  intro E d Q mc ms c K hK h p e s m args below meth cd X H locs A hR hL hF h1 h2
  obtain ⟨ls, st, σ, bc, bs⟩ := c
  have hx := X.1
  have hb := X.2.1
  dsimp only [oCmp] at h
  split at h
  · exact lv_icmp_lt hx hb hd ht (fun q => hK _ _ (h.1 q) p e s m args below meth cd X H locs A hR hL hF h1 h2) (fun q => hK _ _ (h.2 q) p e s m args below meth cd X H locs A hR hL hF h1 h2)
  · exact h.elim
theorem snd_if_ge {M : zM} {pc tg : Nat} {off : Int} (hd : decode M.2.1 pc = .ok (.ifCond .ge off, 3)) (ht : (pc : Int) + off = (tg : Int)) : zSnd M pc (oIf (fun x => 0 ≤ x) tg (pc + 3)) := by
  intro E d Q mc ms c K hK h p e s m args below meth cd X H locs A hR hL hF h1 h2
  obtain ⟨ls, st, σ, bc, bs⟩ := c
  have hx := X.1
  have hb := X.2.1
  dsimp only [oIf] at h
  split at h
  · exact lv_if_ge hx hb hd ht (fun q => hK _ _ (h.1 q) p e s m args below meth cd X H locs A hR hL hF h1 h2) (fun q => hK _ _ (h.2 q) p e s m args below meth cd X H locs A hR hL hF h1 h2)
  · exact h.elim
theorem snd_icmp_ge {M : zM} {pc tg : Nat} {off : Int} (hd : decode M.2.1 pc = .ok (.if_icmp .ge off, 3)) (ht : (pc : Int) + off = (tg : Int)) : zSnd M pc (oCmp (fun x y => y ≤ x) tg (pc + 3)) := by
  intro E d Q mc ms c K hK h p e s m args below meth cd X H locs A hR hL hF h1 h2
  obtain ⟨ls, st, σ, bc, bs⟩ := c
  have hx := X.1
  have hb := X.2.1
  dsimp only [oCmp] at h
  split at h
  · exact lv_icmp_ge hx hb hd ht (fun q => hK _ _ (h.1 q) p e s m args below meth cd X H locs A hR hL hF h1 h2) (fun q => hK _ _ (h.2 q) p e s m args below meth cd X H locs A hR hL hF h1 h2)
  · exact h.elim
theorem snd_if_gt {M : zM} {pc tg : Nat} {off : Int} (hd : decode M.2.1 pc = .ok (.ifCond .gt off, 3)) (ht : (pc : Int) + off = (tg : Int)) : zSnd M pc (oIf (fun x => 0 < x) tg (pc + 3)) := by
  intro E d Q mc ms c K hK h p e s m args below meth cd X H locs A hR hL hF h1 h2
  obtain ⟨ls, st, σ, bc, bs⟩ := c
  have hx := X.1
  have hb := X.2.1
  dsimp only [oIf] at h
  split at h
  · exact lv_if_gt hx hb hd ht (fun q => hK _ _ (h.1 q) p e s m args below meth cd X H locs A hR hL hF h1 h2) (fun q => hK _ _ (h.2 q) p e s m args below meth cd X H locs A hR hL hF h1 h2)
  · exact h.elim
theorem snd_icmp_gt {M : zM} {pc tg : Nat} {off : Int} (hd : decode M.2.1 pc = .ok (.if_icmp .gt off, 3)) (ht : (pc : Int) + off = (tg : Int)) : zSnd M pc (oCmp (fun x y => y < x) tg (pc + 3)) := by
  intro E d Q mc ms c K hK h p e s m args below meth cd X H locs A hR hL hF h1 h2
  obtain ⟨ls, st, σ, bc, bs⟩ := c
  have hx := X.1
  have hb := X.2.1
  dsimp only [oCmp] at h
  split at h
  · exact lv_icmp_gt hx hb hd ht (fun q => hK _ _ (h.1 q) p e s m args below meth cd X H locs A hR hL hF h1 h2) (fun q => hK _ _ (h.2 q) p e s m args below meth cd X H locs A hR hL hF h1 h2)
  · exact h.elim
theorem snd_if_le {M : zM} {pc tg : Nat} {off : Int} (hd : decode M.2.1 pc = .ok (.ifCond .le off, 3)) (ht : (pc : Int) + off = (tg : Int)) : zSnd M pc (oIf (fun x => x ≤ 0) tg (pc + 3)) := by
  intro E d Q mc ms c K hK h p e s m args below meth cd X H locs A hR hL hF h1 h2
  obtain ⟨ls, st, σ, bc, bs⟩ := c
  have hx := X.1
  have hb := X.2.1
  dsimp only [oIf] at h
  split at h
  · exact lv_if_le hx hb hd ht (fun q => hK _ _ (h.1 q) p e s m args below meth cd X H locs A hR hL hF h1 h2) (fun q => hK _ _ (h.2 q) p e s m args below meth cd X H locs A hR hL hF h1 h2)
  · exact h.elim
theorem snd_icmp_le {M : zM} {pc tg : Nat} {off : Int} (hd : decode M.2.1 pc = .ok (.if_icmp .le off, 3)) (ht : (pc : Int) + off = (tg : Int)) : zSnd M pc (oCmp (fun x y => x ≤ y) tg (pc + 3)) := by
  intro E d Q mc ms c K hK h p e s m args below meth cd X H locs A hR hL hF h1 h2
  obtain ⟨ls, st, σ, bc, bs⟩ := c
  have hx := X.1
  have hb := X.2.1
  dsimp only [oCmp] at h
  split at h
  · exact lv_icmp_le hx hb hd ht (fun q => hK _ _ (h.1 q) p e s m args below meth cd X H locs A hR hL hF h1 h2) (fun q => hK _ _ (h.2 q) p e s m args below meth cd X H locs A hR hL hF h1 h2)
  · exact h.elim
def oGoto (tg : Nat) : zOp := fun _ _ _ c K => K tg c
theorem snd_goto {M : zM} {pc tg : Nat} {off : Int} (hd : decode M.2.1 pc = .ok (.goto off, 3)) (ht : (pc : Int) + off = (tg : Int)) : zSnd M pc (oGoto tg) := by
  intro E d Q mc ms c K hK h p e s m args below meth cd X H locs A hR hL hF h1 h2
  obtain ⟨ls, st, σ, bc, bs⟩ := c
  have hx := X.1
  have hb := X.2.1
  exact lv_goto hx hb hd ht (hK _ _ h p e s m args below meth cd X H locs A hR hL hF h1 h2)
def oIfNull (tn tr : Nat) : zOp := fun _ _ _ c K => match c.2.1 with
  | .null :: st => K tn (c.1, st, c.2.2)
  | .ref _ :: st => K tr (c.1, st, c.2.2)
  | _ => False
theorem snd_ifnull {M : zM} {pc tg : Nat} {off : Int} (hd : decode M.2.1 pc = .ok (.ifnull off, 3)) (ht : (pc : Int) + off = (tg : Int)) : zSnd M pc (oIfNull tg (pc + 3)) := by
  intro E d Q mc ms c K hK h p e s m args below meth cd X H locs A hR hL hF h1 h2
  obtain ⟨ls, st, σ, bc, bs⟩ := c
  have hx := X.1
  have hb := X.2.1
  dsimp only [oIfNull] at h
  split at h
  · exact lv_ifnullN hx hb hd ht (hK _ _ h p e s m args below meth cd X H locs A hR hL hF h1 h2)
  · exact lv_ifnull hx hb hd (hK _ _ h p e s m args below meth cd X H locs A hR hL hF h1 h2)
  · exact h.elim
theorem snd_ifnonnull {M : zM} {pc tg : Nat} {off : Int} (hd : decode M.2.1 pc = .ok (.ifnonnull off, 3)) (ht : (pc : Int) + off = (tg : Int)) : zSnd M pc (oIfNull (pc + 3) tg) := by
  intro E d Q mc ms c K hK h p e s m args below meth cd X H locs A hR hL hF h1 h2
  obtain ⟨ls, st, σ, bc, bs⟩ := c
  have hx := X.1
  have hb := X.2.1
  dsimp only [oIfNull] at h
  split at h
  · exact lv_ifnonnullN hx hb hd (hK _ _ h p e s m args below meth cd X H locs A hR hL hF h1 h2)
  · exact lv_ifnonnull hx hb hd ht (hK _ _ h p e s m args below meth cd X H locs A hR hL hF h1 h2)
  · exact h.elim
/-- the method's end -/
def oRetI (z : Bool) : zOp := fun _ _ Q c _ => match c.2.1 with
  | [.int x] => (z = true → x = 0 ∨ x = 1) ∧ Q (some (.int x)) c.2.2.1
  | _ => False
theorem snd_ireturn {M : zM} {pc : Nat} (hd : decode M.2.1 pc = .ok (.ireturn, 1)) (hr9 : M.2.2.2 = some .int) : zSnd M pc (oRetI false) := by
  intro E d Q mc ms c K hK h p e s m args below meth cd X H locs A hR hL hF h1 h2
  obtain ⟨ls, st, σ, bc, bs⟩ := c
  have hx := X.1
  have hb := X.2.1
  have hr := X.2.2.1
  have hlk := X.2.2.2.1
  dsimp only at h1 h2 ⊢
  refine W.widen (k := mc) (n := ms) (Nat.sub_le _ _) (Nat.sub_le _ _) ?_
  dsimp only [oRetI] at h
  split at h
  · next x => exact W.iret (v := x) hx hb (hr.trans hr9) (fun t ht hW => ⟨some (.int x), σ, rfl, h.2, by rw [ht]; exact hR⟩) hF hd hlk
  · exact h.elim
theorem snd_zreturn {M : zM} {pc : Nat} (hd : decode M.2.1 pc = .ok (.ireturn, 1)) (hr9 : M.2.2.2 = some .boolean) : zSnd M pc (oRetI true) := by
  intro E d Q mc ms c K hK h p e s m args below meth cd X H locs A hR hL hF h1 h2
  obtain ⟨ls, st, σ, bc, bs⟩ := c
  have hx := X.1
  have hb := X.2.1
  have hr := X.2.2.1
  have hlk := X.2.2.2.1
  dsimp only at h1 h2 ⊢
  refine W.widen (k := mc) (n := ms) (Nat.sub_le _ _) (Nat.sub_le _ _) ?_
  dsimp only [oRetI] at h
  split at h
  · next x => exact W.zret (v := x) hx hb (hr.trans hr9) (by rcases h.1 rfl with q | q <;> subst q <;> decide) (fun t ht hW => ⟨some (.int x), σ, rfl, h.2, by rw [ht]; exact hR⟩) hF hd hlk
  · exact h.elim
def oRetL : zOp := fun _ _ Q c _ => match c.2.1 with
  | [.long x] => Q (some (.long x)) c.2.2.1
  | _ => False
theorem snd_lreturn {M : zM} {pc : Nat} (hd : decode M.2.1 pc = .ok (.lreturn, 1)) (hr9 : M.2.2.2 = some .long) : zSnd M pc oRetL := by
  intro E d Q mc ms c K hK h p e s m args below meth cd X H locs A hR hL hF h1 h2
  obtain ⟨ls, st, σ, bc, bs⟩ := c
  have hx := X.1
  have hb := X.2.1
  have hr := X.2.2.1
  have hlk := X.2.2.2.1
  dsimp only at h1 h2 ⊢
  refine W.widen (k := mc) (n := ms) (Nat.sub_le _ _) (Nat.sub_le _ _) ?_
  dsimp only [oRetL] at h
  split at h
  · next x => exact W.lret (v := x) hx hb (hr.trans hr9) (fun t ht hW => ⟨some (.long x), σ, rfl, h, by rw [ht]; exact hR⟩) hF hd hlk
  · exact h.elim
def oRetA : zOp := fun _ _ Q c _ => match c.2.1 with
  | [.ref x] => Q (some (.ref x)) c.2.2.1
  | _ => False
theorem snd_areturn {M : zM} {pc : Nat} {C : String} (hd : decode M.2.1 pc = .ok (.areturn, 1)) (hr9 : M.2.2.2 = some (.object C)) : zSnd M pc oRetA := by
  intro E d Q mc ms c K hK h p e s m args below meth cd X H locs A hR hL hF h1 h2
  obtain ⟨ls, st, σ, bc, bs⟩ := c
  have hx := X.1
  have hb := X.2.1
  have hr := X.2.2.1
  have hlk := X.2.2.2.1
  dsimp only at h1 h2 ⊢
  refine W.widen (k := mc) (n := ms) (Nat.sub_le _ _) (Nat.sub_le _ _) ?_
  dsimp only [oRetA] at h
  split at h
  · next x => exact W.aret (v := .ref (zad E x)) hx hb (hr.trans hr9) (Or.inl ⟨_, rfl⟩) (Or.inr ⟨_, rfl⟩) (fun t ht hW => ⟨some (.ref x), σ, rfl, h, by rw [ht]; exact hR⟩) hF hd hlk
  · exact h.elim
def oRetV : zOp := fun _ _ Q c _ => match c.2.1 with
  | [] => Q none c.2.2.1
  | _ => False
theorem snd_return {M : zM} {pc : Nat} (hd : decode M.2.1 pc = .ok (.return_, 1)) (hr9 : M.2.2.2 = none) : zSnd M pc oRetV := by
  intro E d Q mc ms c K hK h p e s m args below meth cd X H locs A hR hL hF h1 h2
  obtain ⟨ls, st, σ, bc, bs⟩ := c
  have hx := X.1
  have hb := X.2.1
  have hr := X.2.2.1
  have hlk := X.2.2.2.1
  dsimp only at h1 h2 ⊢
  refine W.widen (k := mc) (n := ms) (Nat.sub_le _ _) (Nat.sub_le _ _) ?_
  dsimp only [oRetV] at h
  split at h
  · exact W.vret hx hb (hr.trans hr9) (fun t ht hW => ⟨none, σ, rfl, h, by rw [ht]; exact hR⟩) hF hd hlk
  · exact h.elim
