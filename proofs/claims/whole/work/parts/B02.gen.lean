/-! a second judgement: any end, any room; for methods that throw, that catch, and for the law -/
def zStrs : List (String × Nat × String) := [("SlowerForTheLate", 329, "there is no such shelf"), ("SlowerForTheLate", 336, "there is no row on this shelf"), ("SlowerForTheLate", 339, "there is no such place in this row"), ("SlowerForTheLate$Aimer", 28, "one who aimed has failed"), ("SlowerForTheLate$Tardy", 36, "a tardy one has failed"), ("SlowerForTheLate$Walker", 42, "one has failed")]
def zDecl : List String := ["java/lang/RuntimeException", "java/lang/Exception", "java/lang/Throwable"]
def zExs : List String := ["java/lang/IllegalArgumentException", "java/lang/IllegalStateException", "java/lang/UnsupportedOperationException"]
/-- what exceptions stand on -/
def zSX (E : zE) (s : State) : Prop := (eL E).stackTraces = false ∧ vx_Zq Bundle.tN "UNASSIGNED_STACK" Bundle.steD (fun q => eB E ≤ q) s (eH E) ∧ vx_Zq Bundle.tN "SUPPRESSED_SENTINEL" Bundle.listD (fun q => eB E ≤ q) s (eH E) ∧ (∀ q ∈ zStrs, ∃ a, vk_R q.1 q.2.1 q.2.2 a s) ∧ (∀ C ∈ zDecl, va_Nw (.declares (Bundle.initS C)) s) ∧ (∀ C ∈ zExs, va_Nw (.castable C C) s) ∧ ∀ C ∈ zExs, ∀ D ∈ zExs, C ≠ D → va_Nc C D s
theorem zSX.warm {E : zE} {u U : State} (hW : u.WarmedH U.vm) (h : zSX E u) : zSX E U :=
  ⟨h.1, vx_Zq.moved hW.alike h.2.1, vx_Zq.moved hW.alike h.2.2.1, fun q hq => (h.2.2.2.1 q hq).elim fun a ha => ⟨a, vk_R.warm hW ha⟩, fun C hC => (h.2.2.2.2.1 C hC).warmD hW, fun C hC => (h.2.2.2.2.2.1 C hC).warmC hW, fun C hC D hD n => va_Nc.moved hW.alike (h.2.2.2.2.2.2 C hC D hD n)⟩
theorem zSX.same {E : zE} {u U : State} (hv : u.vm = U.vm) (h : zSX E u) : zSX E U := by
  have ha : u.vm.Alike U.vm := by rw [hv]; exact Vm.Alike.refl _
  exact ⟨h.1, vx_Zq.moved ha h.2.1, vx_Zq.moved ha h.2.2.1, fun q hq => (h.2.2.2.1 q hq).elim fun a ha => ⟨a, vk_R.same hv.symm ha⟩, fun C hC => (h.2.2.2.2.1 C hC).same rfl hv, fun C hC => (h.2.2.2.2.2.1 C hC).same rfl hv, fun C hC D hD n => va_Nc.moved ha (h.2.2.2.2.2.2 C hC D hD n)⟩
def zCy (E : zE) (M : zM) (tb : List ExceptionTableEntry) (p : Program) (s : State) (m : MethodId) (args : Array Value) (meth : Method) (c : Code) : Prop :=
  p.tables.exec = Jvm.exec ∧ c.code = M.2.1 ∧ meth.sig.returnType = M.2.2.2 ∧ meth.locks = false ∧ c.maxLocals = M.2.2.1 ∧ s.vm.findClass M.1.cls = some m.cls ∧ (∀ w ∈ zTb, w.before args s = true) ∧ zSK E s ∧ meth.name = M.1.name ∧ c.exceptionTable.toList = tb ∧ zSX E s
abbrev zEd : Type := List Frame → Array Value → State → State → Prop
def zGy (E : zE) (M : zM) (tb : List ExceptionTableEntry) (R : Room) (Z : zEd) (pc : Nat) (c : zC) : Prop :=
  ∀ (p : Program) (e : Env) (s : State) (m : MethodId) (args : Array Value) (below : List Frame) (meth : Method) (cd : Code), zCy E M tb p s m args meth cd →
    ∀ (H : Heap) (locs : List Loc) (A : Array Slot), zRel E c.2.2.1 H → zLs E M.2.2.1 c.1 A → (∀ q ∈ locs, eB E ≤ q.base) → c.2.2.2.1 ≤ R.cells → c.2.2.2.2 ≤ R.slots →
      W p (eL E) e R s m args below meth cd H locs (R.cells - c.2.2.2.1) (R.slots - c.2.2.2.2) (Z below args s) (F0 m pc A (c.2.1.map (ztr E)))
def zSndy (M : zM) (tb : List ExceptionTableEntry) (pc : Nat) (op : zOp) : Prop := ∀ (E : zE) (d : Nat) (Z : zEd) (R : Room) (c : zC) (K : Nat → zC → Prop), d ≤ R.frames → 34 * d ≤ R.locals → (∀ pc' c', K pc' c' → zGy E M tb R Z pc' c') → op E d (fun _ _ => False) c K → zGy E M tb R Z pc c
theorem zroomY {d' maxL : Nat} {R : Room} (h : maxL ≤ 15) (h1 : d' + 1 ≤ R.frames) (h2 : 34 * (d' + 1) ≤ R.locals) : d' + 1 ≤ R.frames ∧ 8 + (maxL + 11) + 34 * d' ≤ R.locals := by omega
theorem sny_ldIn {tb : List ExceptionTableEntry} {M : zM} {pc : Nat} {i : Nat} {k9 : Fin 4} (hi : (k9 : Nat) = i) (hd : decode M.2.1 pc = .ok (.iload_n k9, 1)) : zSndy M tb pc (oLdI i (pc + 1)) := by
  intro E d Z R c K hr1 hr2 hK h p e s m args below meth cd X H locs A hR hL hF h1 h2
  obtain ⟨ls, st, σ, bc, bs⟩ := c
  have hx := X.1
  have hb := X.2.1
  dsimp only [oLdI] at h
  split at h
  · next x hx9 =>
    exact lv_iload_n hx hb hd hi (hL.get hx9) (hK _ _ h p e s m args below meth cd X H locs A hR hL hF h1 h2)
  · exact h.elim
theorem sny_ldI {tb : List ExceptionTableEntry} {M : zM} {pc : Nat} {i : Nat} (hd : decode M.2.1 pc = .ok (.iload i, 2)) : zSndy M tb pc (oLdI i (pc + 2)) := by
  intro E d Z R c K hr1 hr2 hK h p e s m args below meth cd X H locs A hR hL hF h1 h2
  obtain ⟨ls, st, σ, bc, bs⟩ := c
  have hx := X.1
  have hb := X.2.1
  dsimp only [oLdI] at h
  split at h
  · next x hx9 =>
    exact lv_iload hx hb hd (hL.get hx9) (hK _ _ h p e s m args below meth cd X H locs A hR hL hF h1 h2)
  · exact h.elim
theorem sny_ldAn {tb : List ExceptionTableEntry} {M : zM} {pc : Nat} {i : Nat} {k9 : Fin 4} (hi : (k9 : Nat) = i) (hd : decode M.2.1 pc = .ok (.aload_n k9, 1)) : zSndy M tb pc (oLdA i (pc + 1)) := by
  intro E d Z R c K hr1 hr2 hK h p e s m args below meth cd X H locs A hR hL hF h1 h2
  obtain ⟨ls, st, σ, bc, bs⟩ := c
  have hx := X.1
  have hb := X.2.1
  dsimp only [oLdA] at h
  split at h
  · next x hx9 =>
    exact lv_aload_n hx hb hd hi (hL.get hx9) (hK _ _ h p e s m args below meth cd X H locs A hR hL hF h1 h2)
  · next hx9 =>
    exact lv_aload_nN hx hb hd hi (hL.get hx9) (hK _ _ h p e s m args below meth cd X H locs A hR hL hF h1 h2)
  · exact h.elim
theorem sny_ldA {tb : List ExceptionTableEntry} {M : zM} {pc : Nat} {i : Nat} (hd : decode M.2.1 pc = .ok (.aload i, 2)) : zSndy M tb pc (oLdA i (pc + 2)) := by
  intro E d Z R c K hr1 hr2 hK h p e s m args below meth cd X H locs A hR hL hF h1 h2
  obtain ⟨ls, st, σ, bc, bs⟩ := c
  have hx := X.1
  have hb := X.2.1
  dsimp only [oLdA] at h
  split at h
  · next x hx9 =>
    exact lv_aload hx hb hd (hL.get hx9) (hK _ _ h p e s m args below meth cd X H locs A hR hL hF h1 h2)
  · next hx9 =>
    exact lv_aloadN hx hb hd (hL.get hx9) (hK _ _ h p e s m args below meth cd X H locs A hR hL hF h1 h2)
  · exact h.elim
theorem sny_ldLn {tb : List ExceptionTableEntry} {M : zM} {pc : Nat} {i : Nat} {k9 : Fin 4} (hi : (k9 : Nat) = i) (hd : decode M.2.1 pc = .ok (.lload_n k9, 1)) : zSndy M tb pc (oLdL i (pc + 1)) := by
  intro E d Z R c K hr1 hr2 hK h p e s m args below meth cd X H locs A hR hL hF h1 h2
  obtain ⟨ls, st, σ, bc, bs⟩ := c
  have hx := X.1
  have hb := X.2.1
  dsimp only [oLdL] at h
  split at h
  · next x hx9 =>
    exact lv_lload_n hx hb hd hi (hL.get hx9) (hK _ _ h p e s m args below meth cd X H locs A hR hL hF h1 h2)
  · exact h.elim
theorem sny_ldL {tb : List ExceptionTableEntry} {M : zM} {pc : Nat} {i : Nat} (hd : decode M.2.1 pc = .ok (.lload i, 2)) : zSndy M tb pc (oLdL i (pc + 2)) := by
  intro E d Z R c K hr1 hr2 hK h p e s m args below meth cd X H locs A hR hL hF h1 h2
  obtain ⟨ls, st, σ, bc, bs⟩ := c
  have hx := X.1
  have hb := X.2.1
  dsimp only [oLdL] at h
  split at h
  · next x hx9 =>
    exact lv_lload hx hb hd (hL.get hx9) (hK _ _ h p e s m args below meth cd X H locs A hR hL hF h1 h2)
  · exact h.elim
theorem sny_stIn {tb : List ExceptionTableEntry} {M : zM} {pc : Nat} {i : Nat} {k9 : Fin 4} (hi : (k9 : Nat) = i) (hd : decode M.2.1 pc = .ok (.istore_n k9, 1)) (hn : i < M.2.2.1) : zSndy M tb pc (oStI i (pc + 1)) := by
  intro E d Z R c K hr1 hr2 hK h p e s m args below meth cd X H locs A hR hL hF h1 h2
  obtain ⟨ls, st, σ, bc, bs⟩ := c
  have hx := X.1
  have hb := X.2.1
  dsimp only [oStI] at h
  split at h
  · next x st => exact lv_istore_n hx hb hd hi hL hn rfl (fun A9 h9 => hK _ _ h p e s m args below meth cd X H locs A9 hR (zst_mem h9) hF h1 h2)
  · exact h.elim
theorem sny_stI {tb : List ExceptionTableEntry} {M : zM} {pc : Nat} {i : Nat} (hd : decode M.2.1 pc = .ok (.istore i, 2)) (hn : i < M.2.2.1) : zSndy M tb pc (oStI i (pc + 2)) := by
  intro E d Z R c K hr1 hr2 hK h p e s m args below meth cd X H locs A hR hL hF h1 h2
  obtain ⟨ls, st, σ, bc, bs⟩ := c
  have hx := X.1
  have hb := X.2.1
  dsimp only [oStI] at h
  split at h
  · next x st => exact lv_istore hx hb hd hL hn rfl (fun A9 h9 => hK _ _ h p e s m args below meth cd X H locs A9 hR (zst_mem h9) hF h1 h2)
  · exact h.elim
theorem sny_stAn {tb : List ExceptionTableEntry} {M : zM} {pc : Nat} {i : Nat} {k9 : Fin 4} (hi : (k9 : Nat) = i) (hd : decode M.2.1 pc = .ok (.astore_n k9, 1)) (hn : i < M.2.2.1) : zSndy M tb pc (oStA i (pc + 1)) := by
  intro E d Z R c K hr1 hr2 hK h p e s m args below meth cd X H locs A hR hL hF h1 h2
  obtain ⟨ls, st, σ, bc, bs⟩ := c
  have hx := X.1
  have hb := X.2.1
  dsimp only [oStA] at h
  split at h
  · next x st => exact lv_astore_n hx hb hd hi hL hn rfl (fun A9 h9 => hK _ _ h p e s m args below meth cd X H locs A9 hR (zst_mem h9) hF h1 h2)
  · next st => exact lv_astore_nN hx hb hd hi hL hn rfl (fun A9 h9 => hK _ _ h p e s m args below meth cd X H locs A9 hR (zst_mem h9) hF h1 h2)
  · exact h.elim
theorem sny_stA {tb : List ExceptionTableEntry} {M : zM} {pc : Nat} {i : Nat} (hd : decode M.2.1 pc = .ok (.astore i, 2)) (hn : i < M.2.2.1) : zSndy M tb pc (oStA i (pc + 2)) := by
  intro E d Z R c K hr1 hr2 hK h p e s m args below meth cd X H locs A hR hL hF h1 h2
  obtain ⟨ls, st, σ, bc, bs⟩ := c
  have hx := X.1
  have hb := X.2.1
  dsimp only [oStA] at h
  split at h
  · next x st => exact lv_astore hx hb hd hL hn rfl (fun A9 h9 => hK _ _ h p e s m args below meth cd X H locs A9 hR (zst_mem h9) hF h1 h2)
  · next st => exact lv_astoreN hx hb hd hL hn rfl (fun A9 h9 => hK _ _ h p e s m args below meth cd X H locs A9 hR (zst_mem h9) hF h1 h2)
  · exact h.elim
theorem sny_inc {tb : List ExceptionTableEntry} {M : zM} {pc i : Nat} {n : Int} {v : Int32} (hd : decode M.2.1 pc = .ok (.iinc i n, 3)) (hn : i < M.2.2.1) (hv : Int32.ofInt n = v) : zSndy M tb pc (oInc i v (pc + 3)) := by
  intro E d Z R c K hr1 hr2 hK h p e s m args below meth cd X H locs A hR hL hF h1 h2
  obtain ⟨ls, st, σ, bc, bs⟩ := c
  have hx := X.1
  have hb := X.2.1
  dsimp only [oInc] at h
  split at h
  · next x hx9 =>
    have hm := zenc_mem (E := E) (i := 0) hx9
    rw [Nat.zero_add] at hm
    obtain ⟨k, hk⟩ := List.getElem?_of_mem hm
    exact lv_iinc hx hb hd hL hk (by rw [hv]) hn rfl (fun A9 h9 => hK _ _ h p e s m args below meth cd X H locs A9 hR (zst_mem h9) hF h1 h2)
  · exact h.elim
theorem sny_iconst {tb : List ExceptionTableEntry} {M : zM} {pc : Nat} {n : Int} {v : Int32} (hd : decode M.2.1 pc = .ok (.iconst n, 1)) (hv : Int32.ofInt n = v) : zSndy M tb pc (oCI v (pc + 1)) := by
  intro E d Z R c K hr1 hr2 hK h p e s m args below meth cd X H locs A hR hL hF h1 h2
  obtain ⟨ls, st, σ, bc, bs⟩ := c
  have hx := X.1
  have hb := X.2.1
  exact lv_iconst hx hb hd hv (hK _ _ h p e s m args below meth cd X H locs A hR hL hF h1 h2)
theorem sny_bipush {tb : List ExceptionTableEntry} {M : zM} {pc : Nat} {n : Int} {v : Int32} (hd : decode M.2.1 pc = .ok (.bipush n, 2)) (hv : (Int8.ofInt n).toInt32 = v) : zSndy M tb pc (oCI v (pc + 2)) := by
  intro E d Z R c K hr1 hr2 hK h p e s m args below meth cd X H locs A hR hL hF h1 h2
  obtain ⟨ls, st, σ, bc, bs⟩ := c
  have hx := X.1
  have hb := X.2.1
  exact lv_bipush hx hb hd hv (hK _ _ h p e s m args below meth cd X H locs A hR hL hF h1 h2)
theorem sny_sipush {tb : List ExceptionTableEntry} {M : zM} {pc : Nat} {n : Int} {v : Int32} (hd : decode M.2.1 pc = .ok (.sipush n, 3)) (hv : (Int16.ofInt n).toInt32 = v) : zSndy M tb pc (oCI v (pc + 3)) := by
  intro E d Z R c K hr1 hr2 hK h p e s m args below meth cd X H locs A hR hL hF h1 h2
  obtain ⟨ls, st, σ, bc, bs⟩ := c
  have hx := X.1
  have hb := X.2.1
  exact lv_sipush hx hb hd hv (hK _ _ h p e s m args below meth cd X H locs A hR hL hF h1 h2)
theorem sny_lconst {tb : List ExceptionTableEntry} {M : zM} {pc : Nat} {n : Fin 2} {v : Int64} (hd : decode M.2.1 pc = .ok (.lconst n, 1)) (hv : Int64.ofNat (n : Nat) = v) : zSndy M tb pc (oCL v (pc + 1)) := by
  intro E d Z R c K hr1 hr2 hK h p e s m args below meth cd X H locs A hR hL hF h1 h2
  obtain ⟨ls, st, σ, bc, bs⟩ := c
  have hx := X.1
  have hb := X.2.1
  exact lv_lconst hx hb hd hv (hK _ _ h p e s m args below meth cd X H locs A hR hL hF h1 h2)
theorem sny_iadd {tb : List ExceptionTableEntry} {M : zM} {pc : Nat} (hd : decode M.2.1 pc = .ok (.iadd, 1)) : zSndy M tb pc (oBin (fun x y => x + y) (pc + 1)) := by
  intro E d Z R c K hr1 hr2 hK h p e s m args below meth cd X H locs A hR hL hF h1 h2
  obtain ⟨ls, st, σ, bc, bs⟩ := c
  have hx := X.1
  have hb := X.2.1
  dsimp only [oBin] at h
  split at h
  · exact lv_iadd hx hb hd (hK _ _ h p e s m args below meth cd X H locs A hR hL hF h1 h2)
  · exact h.elim
theorem sny_isub {tb : List ExceptionTableEntry} {M : zM} {pc : Nat} (hd : decode M.2.1 pc = .ok (.isub, 1)) : zSndy M tb pc (oBin (fun x y => x - y) (pc + 1)) := by
  intro E d Z R c K hr1 hr2 hK h p e s m args below meth cd X H locs A hR hL hF h1 h2
  obtain ⟨ls, st, σ, bc, bs⟩ := c
  have hx := X.1
  have hb := X.2.1
  dsimp only [oBin] at h
  split at h
  · exact lv_isub hx hb hd (hK _ _ h p e s m args below meth cd X H locs A hR hL hF h1 h2)
  · exact h.elim
theorem sny_iand {tb : List ExceptionTableEntry} {M : zM} {pc : Nat} (hd : decode M.2.1 pc = .ok (.iand, 1)) : zSndy M tb pc (oBin (fun x y => x &&& y) (pc + 1)) := by
  intro E d Z R c K hr1 hr2 hK h p e s m args below meth cd X H locs A hR hL hF h1 h2
  obtain ⟨ls, st, σ, bc, bs⟩ := c
  have hx := X.1
  have hb := X.2.1
  dsimp only [oBin] at h
  split at h
  · exact lv_iand hx hb hd (hK _ _ h p e s m args below meth cd X H locs A hR hL hF h1 h2)
  · exact h.elim
theorem sny_i2l {tb : List ExceptionTableEntry} {M : zM} {pc : Nat} (hd : decode M.2.1 pc = .ok (.i2l, 1)) : zSndy M tb pc (oI2L (pc + 1)) := by
  intro E d Z R c K hr1 hr2 hK h p e s m args below meth cd X H locs A hR hL hF h1 h2
  obtain ⟨ls, st, σ, bc, bs⟩ := c
  have hx := X.1
  have hb := X.2.1
  dsimp only [oI2L] at h
  split at h
  · exact lv_i2l hx hb hd rfl (hK _ _ h p e s m args below meth cd X H locs A hR hL hF h1 h2)
  · exact h.elim
theorem sny_dup {tb : List ExceptionTableEntry} {M : zM} {pc : Nat} (hd : decode M.2.1 pc = .ok (.dup, 1)) : zSndy M tb pc (oDup (pc + 1)) := by
  intro E d Z R c K hr1 hr2 hK h p e s m args below meth cd X H locs A hR hL hF h1 h2
  obtain ⟨ls, st, σ, bc, bs⟩ := c
  have hx := X.1
  have hb := X.2.1
  dsimp only [oDup] at h
  split at h
  · exact lv_dup hx hb hd rfl (hK _ _ h p e s m args below meth cd X H locs A hR hL hF h1 h2)
  · exact lv_dup hx hb hd rfl (hK _ _ h p e s m args below meth cd X H locs A hR hL hF h1 h2)
  · exact h.elim
theorem sny_if_ne {tb : List ExceptionTableEntry} {M : zM} {pc tg : Nat} {off : Int} (hd : decode M.2.1 pc = .ok (.ifCond .ne off, 3)) (ht : (pc : Int) + off = (tg : Int)) : zSndy M tb pc (oIf (fun x => x = 0) (pc + 3) tg) := by
  intro E d Z R c K hr1 hr2 hK h p e s m args below meth cd X H locs A hR hL hF h1 h2
  obtain ⟨ls, st, σ, bc, bs⟩ := c
  have hx := X.1
  have hb := X.2.1
  dsimp only [oIf] at h
  split at h
  · exact lv_if_ne hx hb hd ht (fun q => hK _ _ (h.2 q) p e s m args below meth cd X H locs A hR hL hF h1 h2) (fun q => hK _ _ (h.1 q) p e s m args below meth cd X H locs A hR hL hF h1 h2)
  · exact h.elim
theorem sny_icmp_ne {tb : List ExceptionTableEntry} {M : zM} {pc tg : Nat} {off : Int} (hd : decode M.2.1 pc = .ok (.if_icmp .ne off, 3)) (ht : (pc : Int) + off = (tg : Int)) : zSndy M tb pc (oCmp (fun x y => x = y) (pc + 3) tg) := by
  intro E d Z R c K hr1 hr2 hK h p e s m args below meth cd X H locs A hR hL hF h1 h2
  obtain ⟨ls, st, σ, bc, bs⟩ := c
  have hx := X.1
  have hb := X.2.1
  dsimp only [oCmp] at h
  split at h
  · exact lv_icmp_ne hx hb hd ht (fun q => hK _ _ (h.2 q) p e s m args below meth cd X H locs A hR hL hF h1 h2) (fun q => hK _ _ (h.1 q) p e s m args below meth cd X H locs A hR hL hF h1 h2)
  · exact h.elim
theorem sny_if_eq {tb : List ExceptionTableEntry} {M : zM} {pc tg : Nat} {off : Int} (hd : decode M.2.1 pc = .ok (.ifCond .eq off, 3)) (ht : (pc : Int) + off = (tg : Int)) : zSndy M tb pc (oIf (fun x => x = 0) tg (pc + 3)) := by
  intro E d Z R c K hr1 hr2 hK h p e s m args below meth cd X H locs A hR hL hF h1 h2
  obtain ⟨ls, st, σ, bc, bs⟩ := c
  have hx := X.1
  have hb := X.2.1
  dsimp only [oIf] at h
  split at h
  · exact lv_if_eq hx hb hd ht (fun q => hK _ _ (h.1 q) p e s m args below meth cd X H locs A hR hL hF h1 h2) (fun q => hK _ _ (h.2 q) p e s m args below meth cd X H locs A hR hL hF h1 h2)
  · exact h.elim
theorem sny_icmp_eq {tb : List ExceptionTableEntry} {M : zM} {pc tg : Nat} {off : Int} (hd : decode M.2.1 pc = .ok (.if_icmp .eq off, 3)) (ht : (pc : Int) + off = (tg : Int)) : zSndy M tb pc (oCmp (fun x y => x = y) tg (pc + 3)) := by
  intro E d Z R c K hr1 hr2 hK h p e s m args below meth cd X H locs A hR hL hF h1 h2
  obtain ⟨ls, st, σ, bc, bs⟩ := c
  have hx := X.1
  have hb := X.2.1
  dsimp only [oCmp] at h
  split at h
  · exact lv_icmp_eq hx hb hd ht (fun q => hK _ _ (h.1 q) p e s m args below meth cd X H locs A hR hL hF h1 h2) (fun q => hK _ _ (h.2 q) p e s m args below meth cd X H locs A hR hL hF h1 h2)
  · exact h.elim
theorem sny_if_lt {tb : List ExceptionTableEntry} {M : zM} {pc tg : Nat} {off : Int} (hd : decode M.2.1 pc = .ok (.ifCond .lt off, 3)) (ht : (pc : Int) + off = (tg : Int)) : zSndy M tb pc (oIf (fun x => x < 0) tg (pc + 3)) := by
  intro E d Z R c K hr1 hr2 hK h p e s m args below meth cd X H locs A hR hL hF h1 h2
  obtain ⟨ls, st, σ, bc, bs⟩ := c
  have hx := X.1
  have hb := X.2.1
  dsimp only [oIf] at h
  split at h
  · exact lv_if_lt hx hb hd ht (fun q => hK _ _ (h.1 q) p e s m args below meth cd X H locs A hR hL hF h1 h2) (fun q => hK _ _ (h.2 q) p e s m args below meth cd X H locs A hR hL hF h1 h2)
  · exact h.elim
theorem sny_icmp_lt {tb : List ExceptionTableEntry} {M : zM} {pc tg : Nat} {off : Int} (hd : decode M.2.1 pc = .ok (.if_icmp .lt off, 3)) (ht : (pc : Int) + off = (tg : Int)) : zSndy M tb pc (oCmp (fun x y => x < y) tg (pc + 3)) := by
  intro E d Z R c K hr1 hr2 hK h p e s m args below meth cd X H locs A hR hL hF h1 h2
  obtain ⟨ls, st, σ, bc, bs⟩ := c
  have hx := X.1
  have hb := X.2.1
  dsimp only [oCmp] at h
  split at h
  · exact lv_icmp_lt hx hb hd ht (fun q => hK _ _ (h.1 q) p e s m args below meth cd X H locs A hR hL hF h1 h2) (fun q => hK _ _ (h.2 q) p e s m args below meth cd X H locs A hR hL hF h1 h2)
  · exact h.elim
theorem sny_if_ge {tb : List ExceptionTableEntry} {M : zM} {pc tg : Nat} {off : Int} (hd : decode M.2.1 pc = .ok (.ifCond .ge off, 3)) (ht : (pc : Int) + off = (tg : Int)) : zSndy M tb pc (oIf (fun x => 0 ≤ x) tg (pc + 3)) := by
  intro E d Z R c K hr1 hr2 hK h p e s m args below meth cd X H locs A hR hL hF h1 h2
  obtain ⟨ls, st, σ, bc, bs⟩ := c
  have hx := X.1
  have hb := X.2.1
  dsimp only [oIf] at h
  split at h
  · exact lv_if_ge hx hb hd ht (fun q => hK _ _ (h.1 q) p e s m args below meth cd X H locs A hR hL hF h1 h2) (fun q => hK _ _ (h.2 q) p e s m args below meth cd X H locs A hR hL hF h1 h2)
  · exact h.elim
theorem sny_icmp_ge {tb : List ExceptionTableEntry} {M : zM} {pc tg : Nat} {off : Int} (hd : decode M.2.1 pc = .ok (.if_icmp .ge off, 3)) (ht : (pc : Int) + off = (tg : Int)) : zSndy M tb pc (oCmp (fun x y => y ≤ x) tg (pc + 3)) := by
  intro E d Z R c K hr1 hr2 hK h p e s m args below meth cd X H locs A hR hL hF h1 h2
  obtain ⟨ls, st, σ, bc, bs⟩ := c
  have hx := X.1
  have hb := X.2.1
  dsimp only [oCmp] at h
  split at h
  · exact lv_icmp_ge hx hb hd ht (fun q => hK _ _ (h.1 q) p e s m args below meth cd X H locs A hR hL hF h1 h2) (fun q => hK _ _ (h.2 q) p e s m args below meth cd X H locs A hR hL hF h1 h2)
  · exact h.elim
theorem sny_if_gt {tb : List ExceptionTableEntry} {M : zM} {pc tg : Nat} {off : Int} (hd : decode M.2.1 pc = .ok (.ifCond .gt off, 3)) (ht : (pc : Int) + off = (tg : Int)) : zSndy M tb pc (oIf (fun x => 0 < x) tg (pc + 3)) := by
  intro E d Z R c K hr1 hr2 hK h p e s m args below meth cd X H locs A hR hL hF h1 h2
  obtain ⟨ls, st, σ, bc, bs⟩ := c
  have hx := X.1
  have hb := X.2.1
  dsimp only [oIf] at h
  split at h
  · exact lv_if_gt hx hb hd ht (fun q => hK _ _ (h.1 q) p e s m args below meth cd X H locs A hR hL hF h1 h2) (fun q => hK _ _ (h.2 q) p e s m args below meth cd X H locs A hR hL hF h1 h2)
  · exact h.elim
theorem sny_icmp_gt {tb : List ExceptionTableEntry} {M : zM} {pc tg : Nat} {off : Int} (hd : decode M.2.1 pc = .ok (.if_icmp .gt off, 3)) (ht : (pc : Int) + off = (tg : Int)) : zSndy M tb pc (oCmp (fun x y => y < x) tg (pc + 3)) := by
  intro E d Z R c K hr1 hr2 hK h p e s m args below meth cd X H locs A hR hL hF h1 h2
  obtain ⟨ls, st, σ, bc, bs⟩ := c
  have hx := X.1
  have hb := X.2.1
  dsimp only [oCmp] at h
  split at h
  · exact lv_icmp_gt hx hb hd ht (fun q => hK _ _ (h.1 q) p e s m args below meth cd X H locs A hR hL hF h1 h2) (fun q => hK _ _ (h.2 q) p e s m args below meth cd X H locs A hR hL hF h1 h2)
  · exact h.elim
theorem sny_if_le {tb : List ExceptionTableEntry} {M : zM} {pc tg : Nat} {off : Int} (hd : decode M.2.1 pc = .ok (.ifCond .le off, 3)) (ht : (pc : Int) + off = (tg : Int)) : zSndy M tb pc (oIf (fun x => x ≤ 0) tg (pc + 3)) := by
  intro E d Z R c K hr1 hr2 hK h p e s m args below meth cd X H locs A hR hL hF h1 h2
  obtain ⟨ls, st, σ, bc, bs⟩ := c
  have hx := X.1
  have hb := X.2.1
  dsimp only [oIf] at h
  split at h
  · exact lv_if_le hx hb hd ht (fun q => hK _ _ (h.1 q) p e s m args below meth cd X H locs A hR hL hF h1 h2) (fun q => hK _ _ (h.2 q) p e s m args below meth cd X H locs A hR hL hF h1 h2)
  · exact h.elim
theorem sny_icmp_le {tb : List ExceptionTableEntry} {M : zM} {pc tg : Nat} {off : Int} (hd : decode M.2.1 pc = .ok (.if_icmp .le off, 3)) (ht : (pc : Int) + off = (tg : Int)) : zSndy M tb pc (oCmp (fun x y => x ≤ y) tg (pc + 3)) := by
  intro E d Z R c K hr1 hr2 hK h p e s m args below meth cd X H locs A hR hL hF h1 h2
  obtain ⟨ls, st, σ, bc, bs⟩ := c
  have hx := X.1
  have hb := X.2.1
  dsimp only [oCmp] at h
  split at h
  · exact lv_icmp_le hx hb hd ht (fun q => hK _ _ (h.1 q) p e s m args below meth cd X H locs A hR hL hF h1 h2) (fun q => hK _ _ (h.2 q) p e s m args below meth cd X H locs A hR hL hF h1 h2)
  · exact h.elim
theorem sny_goto {tb : List ExceptionTableEntry} {M : zM} {pc tg : Nat} {off : Int} (hd : decode M.2.1 pc = .ok (.goto off, 3)) (ht : (pc : Int) + off = (tg : Int)) : zSndy M tb pc (oGoto tg) := by
  intro E d Z R c K hr1 hr2 hK h p e s m args below meth cd X H locs A hR hL hF h1 h2
  obtain ⟨ls, st, σ, bc, bs⟩ := c
  have hx := X.1
  have hb := X.2.1
  exact lv_goto hx hb hd ht (hK _ _ h p e s m args below meth cd X H locs A hR hL hF h1 h2)
theorem sny_ifnull {tb : List ExceptionTableEntry} {M : zM} {pc tg : Nat} {off : Int} (hd : decode M.2.1 pc = .ok (.ifnull off, 3)) (ht : (pc : Int) + off = (tg : Int)) : zSndy M tb pc (oIfNull tg (pc + 3)) := by
  intro E d Z R c K hr1 hr2 hK h p e s m args below meth cd X H locs A hR hL hF h1 h2
  obtain ⟨ls, st, σ, bc, bs⟩ := c
  have hx := X.1
  have hb := X.2.1
  dsimp only [oIfNull] at h
  split at h
  · exact lv_ifnullN hx hb hd ht (hK _ _ h p e s m args below meth cd X H locs A hR hL hF h1 h2)
  · exact lv_ifnull hx hb hd (hK _ _ h p e s m args below meth cd X H locs A hR hL hF h1 h2)
  · exact h.elim
theorem sny_ifnonnull {tb : List ExceptionTableEntry} {M : zM} {pc tg : Nat} {off : Int} (hd : decode M.2.1 pc = .ok (.ifnonnull off, 3)) (ht : (pc : Int) + off = (tg : Int)) : zSndy M tb pc (oIfNull (pc + 3) tg) := by
  intro E d Z R c K hr1 hr2 hK h p e s m args below meth cd X H locs A hR hL hF h1 h2
  obtain ⟨ls, st, σ, bc, bs⟩ := c
  have hx := X.1
  have hb := X.2.1
  dsimp only [oIfNull] at h
  split at h
  · exact lv_ifnonnullN hx hb hd (hK _ _ h p e s m args below meth cd X H locs A hR hL hF h1 h2)
  · exact lv_ifnonnull hx hb hd ht (hK _ _ h p e s m args below meth cd X H locs A hR hL hF h1 h2)
  · exact h.elim
theorem zgety {E : zE} {σ : zS} {H : Heap} {M : zM} {idx k n : Nat} {b : Bool} {cis : List Nat} {q : Nat × Nat} {p : Program} {e : Env} {R : Room} {s : State} {m : MethodId} {args : Array Value} {below : List Frame} {meth : Method} {cd : Code} {locs : List Loc} {cells slots pc : Nat} {Qf : State → Prop} {A : Array Slot} {rest : List Value}
    (hx : p.tables.exec = Jvm.exec) (hb : cd.code = M.2.1) (hts : ∀ w ∈ zTb, w.before args s = true) (hown : s.vm.findClass M.1.cls = some m.cls) (hSK : zSK E s) (hR : zRel E σ H) (hF : zFC M idx k b cis) (hk : zk σ n = q) (hq : zmem q.1 cis = true) (hd : decode M.2.1 pc = .ok (.getfield idx, 3))
    (kk : W p (eL E) e R s m args below meth cd H locs cells slots Qf (F0 m (pc + 3) A (zfv E σ n k b :: rest))) : W p (eL E) e R s m args below meth cd H locs cells slots Qf (F0 m pc A (.ref (zad E n) :: rest)) := by
  obtain ⟨ci, L⟩ := q
  obtain ⟨ref, name, desc, owner, hl, hs, hall⟩ := hF
  obtain ⟨C, T, N, ty, ⟨g1, g0, g2, g3, g4, g5⟩, hkN, e1, e2, e3, hb9⟩ := hall ci (zmem_mem hq)
  have hat := hR.at hk (by omega)
  rw [zent_obj hk g0] at hat
  refine va_get (D := eD E) (cl := zCl) (C := C) (T := T) (N := N) (ci := ci) hx hb hts (fun w hw => (g2 w hw)) hown hSK.1 (zP1 hat) 0 rfl g1 k hkN (ref := ref) (by rw [e2, e3]; exact hts _ (hl)) ?_ (zFld_get hb9) hd kk
  intro x hf
  rcases hs with q | q
  · rw [q, ← e1]; exact hf
  · rw [e2, e3]
    rw [e1, e2, e3] at hf
    exact u_same (hts _ (q)) x hf
theorem sny_getI {tb : List ExceptionTableEntry} {M : zM} {pc idx k : Nat} {cis : List Nat} (hd : decode M.2.1 pc = .ok (.getfield idx, 3)) (hF9 : zFC M idx k false cis) : zSndy M tb pc (oGetI k cis (pc + 3)) := by
  intro E d Z R c K hr1 hr2 hK h p e s m args below meth cd X H locs A hR hL hF h1 h2
  obtain ⟨ls, st, σ, bc, bs⟩ := c
  have hx := X.1
  have hb := X.2.1
  have hts := X.2.2.2.2.2.2.1
  have hown := X.2.2.2.2.2.1
  have hSK := X.2.2.2.2.2.2.2.1
  dsimp only [oGetI] at h
  split at h
  · obtain ⟨q, q1, q2, h⟩ := h
    exact zgety hx hb hts hown hSK hR hF9 q1 q2 hd (hK _ _ h p e s m args below meth cd X H locs A hR hL hF h1 h2)
  · exact h.elim
theorem sny_getR {tb : List ExceptionTableEntry} {M : zM} {pc idx k : Nat} {cis : List Nat} (hd : decode M.2.1 pc = .ok (.getfield idx, 3)) (hF9 : zFC M idx k true cis) : zSndy M tb pc (oGetR k cis (pc + 3)) := by
  intro E d Z R c K hr1 hr2 hK h p e s m args below meth cd X H locs A hR hL hF h1 h2
  obtain ⟨ls, st, σ, bc, bs⟩ := c
  have hx := X.1
  have hb := X.2.1
  have hts := X.2.2.2.2.2.2.1
  have hown := X.2.2.2.2.2.1
  have hSK := X.2.2.2.2.2.2.2.1
  dsimp only [oGetR] at h
  split at h
  · next n st =>
    obtain ⟨q, q1, q2, o, q3, h⟩ := h
    have hw := hK _ _ h p e s m args below meth cd X H locs A hR hL hF h1 h2
    dsimp only [List.map] at hw ⊢
    rw [ztr_vr, ← q3] at hw
    exact zgety hx hb hts hown hSK hR hF9 q1 q2 hd hw
  · exact h.elim
theorem sny_rald {tb : List ExceptionTableEntry} {M : zM} {pc : Nat} (hd : decode M.2.1 pc = .ok (.iaload, 1)) : zSndy M tb pc (oIald 21 (pc + 1)) := by
  intro E d Z R c K hr1 hr2 hK h p e s m args below meth cd X H locs A hR hL hF h1 h2
  obtain ⟨ls, st, σ, bc, bs⟩ := c
  have hx := X.1
  have hb := X.2.1
  have hts := X.2.2.2.2.2.2.1
  have hown := X.2.2.2.2.2.1
  have hSK := X.2.2.2.2.2.2.2.1
  dsimp only [oIald] at h
  split at h
  · next i n st =>
    obtain ⟨j, L, q1, q2, rfl, q4, h⟩ := h
    obtain ⟨ha, scr, g1, g2, g3, g4, g5⟩ := zro hR hSK q1
    have hw := hK _ _ h p e s m args below meth cd X H locs A hR hL hF h1 h2
    dsimp only [List.map, ztr] at hw ⊢
    rw [ha]
    refine W.iald hx hb g1 g2 g3 (by rw [g4]; exact (zix q4 q2).1) (by rw [(zix q4 q2).2]; exact g5 j q4) rfl rfl hd ?_
    exact hw
  · exact h.elim
theorem sny_lald {tb : List ExceptionTableEntry} {M : zM} {pc : Nat} (hd : decode M.2.1 pc = .ok (.laload, 1)) : zSndy M tb pc (oLald (pc + 1)) := by
  intro E d Z R c K hr1 hr2 hK h p e s m args below meth cd X H locs A hR hL hF h1 h2
  obtain ⟨ls, st, σ, bc, bs⟩ := c
  have hx := X.1
  have hb := X.2.1
  have hts := X.2.2.2.2.2.2.1
  have hown := X.2.2.2.2.2.1
  have hSK := X.2.2.2.2.2.2.2.1
  dsimp only [oLald] at h
  split at h
  · next i n st =>
    obtain ⟨j, L, q1, q2, rfl, q4, h⟩ := h
    have hat := hR.at q1 (by omega)
    rw [zent_lng q1] at hat
    refine va_lald hx hb hSK.1 (zP1 hat) 0 4 rfl rfl (zix q4 q2).1 hd ?_
    rw [(zix q4 q2).2]
    exact hK _ _ h p e s m args below meth cd X H locs A hR hL hF h1 h2
  · exact h.elim
theorem sny_aald18 {tb : List ExceptionTableEntry} {M : zM} {pc : Nat} (hd : decode M.2.1 pc = .ok (.aaload, 1)) : zSndy M tb pc (oAald 18 (pc + 1)) := by
  intro E d Z R c K hr1 hr2 hK h p e s m args below meth cd X H locs A hR hL hF h1 h2
  obtain ⟨ls, st, σ, bc, bs⟩ := c
  have hx := X.1
  have hb := X.2.1
  have hts := X.2.2.2.2.2.2.1
  have hown := X.2.2.2.2.2.1
  have hSK := X.2.2.2.2.2.2.2.1
  dsimp only [oAald] at h
  split at h
  · next i n st =>
    obtain ⟨j, L, q1, q2, rfl, q4, o, q5, h⟩ := h
    have hat := hR.at q1 (by omega)
    rw [zent_ref q1 (Or.inl rfl)] at hat
    have hw := hK _ _ h p e s m args below meth cd X H locs A hR hL hF h1 h2
    dsimp only [List.map] at hw ⊢
    rw [ztr_vr] at hw
    refine va_aldq (C := "SlowerForTheLate$Row") hx hb hSK.1 (zP1 hat) 0 2 rfl rfl (zix q4 q2).1 hd ?_
    rw [(zix q4 q2).2, zrf_map, q5]
    exact hw
  · exact h.elim
theorem sny_aald19 {tb : List ExceptionTableEntry} {M : zM} {pc : Nat} (hd : decode M.2.1 pc = .ok (.aaload, 1)) : zSndy M tb pc (oAald 19 (pc + 1)) := by
  intro E d Z R c K hr1 hr2 hK h p e s m args below meth cd X H locs A hR hL hF h1 h2
  obtain ⟨ls, st, σ, bc, bs⟩ := c
  have hx := X.1
  have hb := X.2.1
  have hts := X.2.2.2.2.2.2.1
  have hown := X.2.2.2.2.2.1
  have hSK := X.2.2.2.2.2.2.2.1
  dsimp only [oAald] at h
  split at h
  · next i n st =>
    obtain ⟨j, L, q1, q2, rfl, q4, o, q5, h⟩ := h
    have hat := hR.at q1 (by omega)
    rw [zent_ref q1 (Or.inr rfl)] at hat
    have hw := hK _ _ h p e s m args below meth cd X H locs A hR hL hF h1 h2
    dsimp only [List.map] at hw ⊢
    rw [ztr_vr] at hw
    refine va_aldq (C := "SlowerForTheLate$Walker") hx hb hSK.1 (zP1 hat) 0 3 rfl rfl (zix q4 q2).1 hd ?_
    rw [(zix q4 q2).2, zrf_map, q5]
    exact hw
  · exact h.elim
theorem sny_rlen {tb : List ExceptionTableEntry} {M : zM} {pc : Nat} (hd : decode M.2.1 pc = .ok (.arraylength, 1)) : zSndy M tb pc (oAlen 21 (pc + 1)) := by
  intro E d Z R c K hr1 hr2 hK h p e s m args below meth cd X H locs A hR hL hF h1 h2
  obtain ⟨ls, st, σ, bc, bs⟩ := c
  have hx := X.1
  have hb := X.2.1
  have hts := X.2.2.2.2.2.2.1
  have hown := X.2.2.2.2.2.1
  have hSK := X.2.2.2.2.2.2.2.1
  dsimp only [oAlen] at h
  split at h
  · next n st =>
    obtain ⟨L, q1, h⟩ := h
    obtain ⟨ha, scr, g1, g2, g3, g4, g5⟩ := zro hR hSK q1
    have hw := hK _ _ h p e s m args below meth cd X H locs A hR hL hF h1 h2
    dsimp only [List.map, ztr] at hw ⊢
    rw [ha]
    refine W.alen hx hb g1 g2 (n := nI L) (by rw [g4]; rfl) rfl rfl hd ?_
    exact hw
  · exact h.elim
theorem sny_last {tb : List ExceptionTableEntry} {M : zM} {pc : Nat} (hd : decode M.2.1 pc = .ok (.lastore, 1)) : zSndy M tb pc (oLast (pc + 1)) := by
  intro E d Z R c K hr1 hr2 hK h p e s m args below meth cd X H locs A hR hL hF h1 h2
  obtain ⟨ls, st, σ, bc, bs⟩ := c
  have hx := X.1
  have hb := X.2.1
  have hts := X.2.2.2.2.2.2.1
  have hown := X.2.2.2.2.2.1
  have hSK := X.2.2.2.2.2.2.2.1
  dsimp only [oLast] at h
  split at h
  · next x i n st =>
    obtain ⟨j, L, q1, q2, rfl, q4, h⟩ := h
    have hat := hR.at q1 (by omega)
    have h3 := (hR.in q1 (by omega)).1
    rw [zent_lng q1] at hat
    refine W.last hx hb hat ((hSK.1.2 4 _ rfl).1 L (fun j => .long (zl σ n j))) (fun q => by cases q) (by show ¬ (_ < (0 : Int32) ∨ (arrV _ _ _).slots.size ≤ _); rw [arrV_size]; exact (zix q4 q2).1) rfl rfl hd fun H1 e1 z oq => ?_
    refine hK _ _ h p e s m args below meth cd X H1 _ A ?_ hL (zlocs hF h3) h1 h2
    refine hR.upd h3 z oq ?_ rfl rfl (fun a ha => ⟨rfl, rfl, zu_row ha⟩)
    rw [zent_lng (σ := zL σ (zu (zl σ) n j x)) q1]
    show H1[zad E n]? = some (vp_cell _ _)
    rw [e1, (zix q4 q2).2, vp_cell_l, vp_cell_l, arrV_store]
    congr 2
    funext q
    by_cases hq : q = j
    · subst hq; simp [updV, zL, zl, zu]
    · simp [updV, zL, zl, zu, hq]
  · exact h.elim
theorem sny_new {tb : List ExceptionTableEntry} {M : zM} {pc idx ci N : Nat} {C : String} {T : u_T} {ty : Nat → FieldType} (hd : decode M.2.1 pc = .ok (.new idx, 3)) (hKC : zKC ci C T N ty) (hKD : zKD ci N ty) (hw : Cond.classLink M.1.cls idx C ∈ zTb ∧ Cond.instantiable C N ∈ zTb ∧ Cond.initialized C ∈ zTb) : zSndy M tb pc (oNew ci N (pc + 3)) := by
  intro E d Z R c K hr1 hr2 hK h p e s m args below meth cd X H locs A hR hL hF h1 h2
  obtain ⟨ls, st, σ, bc, bs⟩ := c
  have hx := X.1
  have hb := X.2.1
  have hts := X.2.2.2.2.2.2.1
  have hown := X.2.2.2.2.2.1
  have hSK := X.2.2.2.2.2.2.2.1
  obtain ⟨hc1, hs1, h⟩ := h
  dsimp only at hc1 hs1 h1 h2 ⊢
  obtain ⟨g1, g0, g2, g3, g4, g5⟩ := hKC
  have hKn := hSK.1.1 ci _ g1
  refine W.newcK hx hb hown (hts _ (hw.1)) (hts _ (hw.2.1)) (hts _ (hw.2.2)) rfl hd (by show R.cells - bc + 1 ≤ R.cells; omega) (by show R.slots - bs + N ≤ R.slots; omega) hKn.2.1 rfl fun H1 kC hkC e1 z1 o1 => ?_
  rw [zcells hc1 h1, zslots hs1 h2, hR.size]
  refine hK _ _ h p e s m args below meth cd X H1 locs A (hR.push (by show ci < 21; omega) z1 o1 ?_) hL hF (by show bc - 1 ≤ R.cells; omega) (by show bs - N ≤ R.slots; omega)
  rw [zent_obj zNew_kind g0, ← hR.size]
  refine ⟨_, g1, (u_born ty hts (fun w hw => (g2 w hw)) hKn hkC e1 g3).to (fun j hj => ?_)⟩
  have hb9 : (zFs ci)[j]? = some ((zFs ci)[j]'(by rw [g5]; exact hj)) := List.getElem?_eq_getElem _
  generalize (zFs ci)[j]'(by rw [g5]; exact hj) = b at hb9
  rw [hKD j hj b hb9]
  have hg := zFld_get (E := E) (σ := zNew σ (ci, N)) (n := zn σ) hb9
  show _ = (zFld E (zNew σ (ci, N)) (zn σ) ci).getD j .null
  rw [List.getD_eq_getElem?_getD, hg]
  cases b
  · show Value.int 0 = .int (if zn σ = zn σ then 0 else _); rw [if_pos rfl]
  · show Value.null = zrf E (if zn σ = zn σ then none else _); rw [if_pos rfl]; rfl
theorem sny_newL {tb : List ExceptionTableEntry} {M : zM} {pc : Nat} (hd : decode M.2.1 pc = .ok (.newarray .long, 2)) (hw : Cond.arrayClass .long ∈ zTb) : zSndy M tb pc (oNewA 20 (pc + 2)) := by
  intro E d Z R c K hr1 hr2 hK h p e s m args below meth cd X H locs A hR hL hF h1 h2
  obtain ⟨ls, st, σ, bc, bs⟩ := c
  have hx := X.1
  have hb := X.2.1
  have hts := X.2.2.2.2.2.2.1
  have hown := X.2.2.2.2.2.1
  have hSK := X.2.2.2.2.2.2.2.1
  dsimp only [oNewA] at h
  split at h
  · next n st =>
    obtain ⟨N, rfl, hN, hc1, hs1, h⟩ := h
    dsimp only at hc1 hs1 h1 h2 ⊢
    refine va_newaK (atype := .long) hx hb (hts _ (hw)) rfl hd rfl (nI_pos (by omega)) (nI_clamp (by omega)) (zbytes hN (by decide)) (by show R.cells - bc + 1 ≤ R.cells; omega) (by show R.slots - bs + N ≤ R.slots; omega) hR.size fun H1 cA e1 z1 o1 hAr hNm => ?_
    have hcA : eC E 20 = cA := Option.some.inj ((hSK.1.2 4 _ rfl).2.symm.trans hNm)
    rw [zcells hc1 h1, zslots hs1 h2]
    refine hK _ _ h p e s m args below meth cd X H1 locs A (hR.push (by show 20 < 21; decide) (z1.trans (by rw [← hR.size])) (fun q hq => o1 q (by rw [← hR.size]; exact hq)) ?_) hL hF (by show bc - 1 ≤ R.cells; omega) (by show bs - N ≤ R.slots; omega)
    rw [zent_lng zNew_kind, hcA]
    show H1[zad E (zn σ)]? = some (vp_cell _ _)
    rw [e1, vp_cell_l]
    congr 2
    funext j
    show Value.long 0 = Value.long (if zn σ = zn σ then 0 else _)
    rw [if_pos rfl]
  · exact h.elim
theorem sny_tsw {tb : List ExceptionTableEntry} {M : zM} {pc d len : Nat} {dflt lo hi : Int} {offs : Array Int} {ps : List (Int32 × Nat)} (hd : decode M.2.1 pc = .ok (.tableswitch dflt lo hi offs, len)) (hdf : (pc : Int) + dflt = (d : Int)) (hl : hi = lo + ps.length - 1) (ht : ztab pc lo 0 offs.toList ps = true) : zSndy M tb pc (oSw ps d) := by
  intro E d Z R c K hr1 hr2 hK h p e s m args below meth cd X H locs A hR hL hF h1 h2
  obtain ⟨ls, st, σ, bc, bs⟩ := c
  have hx := X.1
  have hb := X.2.1
  have hts := X.2.2.2.2.2.2.1
  have hown := X.2.2.2.2.2.1
  have hSK := X.2.2.2.2.2.2.2.1
  dsimp only [oSw] at h
  obtain ⟨g1, g2⟩ := ztab_get ht
  split at h
  · next x st =>
    rcases zsw_spec h with ⟨⟨k, t⟩, q1, rfl, h⟩ | ⟨q1, h⟩
    · obtain ⟨j, hj⟩ := List.getElem?_of_mem q1
      obtain ⟨o, e1, e2, e3⟩ := g2 j x t hj
      have hjl : j < ps.length := (List.getElem?_eq_some_iff.mp hj).1
      refine lv_tableIn hx hb hd (x := x) (off := o) (tgt := t) (by omega) (by omega) ?_ e3 (hK _ _ h p e s m args below meth cd X H locs A hR hL hF h1 h2)
      rw [show (x.toInt - lo).toNat = j by omega]
      simpa using e1
    · refine lv_tableOut hx hb hd (x := x) ?_ hdf (hK _ _ h p e s m args below meth cd X H locs A hR hL hF h1 h2)
      rcases Int.lt_or_le x.toInt lo with z | z
      · exact Or.inl z
      · right
        rcases Int.lt_or_le hi x.toInt with z2 | z2
        · exact z2
        · exfalso
          have hj : (x.toInt - lo).toNat < ps.length := by omega
          have hg : ps[(x.toInt - lo).toNat]? = some (ps[(x.toInt - lo).toNat]'hj) := List.getElem?_eq_getElem hj
          generalize ps[(x.toInt - lo).toNat]'hj = kt at hg
          obtain ⟨k, t⟩ := kt
          obtain ⟨o, e1, e2, e3⟩ := g2 _ k t hg
          exact q1 (k, t) (List.mem_of_getElem? hg) (Int32.toInt_inj.mp (by rw [e2]; omega))
  · exact h.elim
theorem zGoodIny {ws : List Cond} (h : ∀ w ∈ ws, w ∈ zTb) : GoodIn (zTb) ws := fun w hw => ⟨(h w hw), good_of_word (zTb_ok (h w hw)).2⟩
theorem zGoodMy {M' : zM} (h : zcode M' ∈ zTb) {ws : List Cond} (hw : ∀ w ∈ ws, w ∈ zTb) : GoodIn (zTb) (ws ++ zW M') := zGoodIny fun w q => by
  rcases List.mem_append.mp q with q | q
  · exact hw w q
  · rcases List.mem_cons.mp q with q | q
    · rw [q]; exact h
    · exact q
theorem sny_callS {tb : List ExceptionTableEntry} {M M' : zM} {pc idx na : Nat} (hd : decode M.2.1 pc = .ok (.invokestatic idx, 3)) (hc : zCal M' na) (hw9 : ∀ w ∈ ([.methodLink M.1.cls idx M'.1, .static M'.1, .initialized M'.1.cls] : List Cond), w ∈ zTb) : zSndy M tb pc (oCallS na M' (pc + 3)) := by
  intro E d Z R c K hr1 hr2 hK h p e s m args below meth cd X H locs A hR hL hF h1 h2
  obtain ⟨ls, st, σ, bc, bs⟩ := c
  have hx := X.1
  have hb := X.2.1
  have hts := X.2.2.2.2.2.2.1
  have hown := X.2.2.2.2.2.1
  have hSK := X.2.2.2.2.2.2.2.1
  dsimp only [oCallS] at h
  split at h
  · next as rest hp =>
    split at h
    · next hle =>
      obtain ⟨d', mc', ms', Q', rfl, g1, g2, g3, g4⟩ := zcallE h
      obtain ⟨pre, rfl, e2, rfl⟩ := zpop_spec hp
      dsimp only at g1 g2 g3 g4 h1 h2 hR ⊢
      have hcat : ((rest.map (ztr E)).map fun v => v.category).sum ≤ 8 := by rw [zcat_eq]; exact zle hle
      have hls : A.size = M.2.2.1 := hL.1
      exact zafter (rest := rest) (va_runS (As := (pre.reverse ++ []).map (ztr E)) ⟨hx, hb, X.2.2.2.2.1, hown, hts⟩ g3 (va_cwS (mc := mc') (ms := ms') na hts (zGoodMy hc.1 hw9) rfl rfl rfl hc.2.2 (zroomY hc.2.1 hr1 hr2)) ⟨zpc_blind, fun U hU hW => zpc_at rfl hR hSK hU hW⟩ rfl (zlen9 e2) hls zstk (lv_room hcat) hd ⟨zfits g1 h1, zfits g2 h2⟩) hF (fun r σ' H1 locs1 hq hR1 hF1 => by
        have hw := hK _ _ (g4 r σ' hq) p e s m args below meth cd X H1 locs1 A hR1 hL hF1 (by show bc - mc' ≤ R.cells; omega) (by show bs - ms' ≤ R.slots; omega)
        dsimp only at hw
        rw [zsub3 g1 h1, zsub3 g2 h2]
        exact hw)
    · exact h.elim
  · exact h.elim
theorem sny_callI {tb : List ExceptionTableEntry} {M M' : zM} {pc idx na : Nat} (hd : decode M.2.1 pc = .ok (.invokespecial idx, 3)) (hc : zCal M' na) (hn9 : M'.1.name = "<init>") (hr9 : M'.2.2.2 = none) (hw9 : Cond.initialized M'.1.cls ∈ zTb ∧ Cond.methodLink M.1.cls idx M'.1 ∈ zTb ∧ Cond.instanceMethod M'.1 ∈ zTb) : zSndy M tb pc (oCallO na M' (pc + 3)) := by
  intro E d Z R c K hr1 hr2 hK h p e s m args below meth cd X H locs A hR hL hF h1 h2
  obtain ⟨ls, st, σ, bc, bs⟩ := c
  have hx := X.1
  have hb := X.2.1
  have hts := X.2.2.2.2.2.2.1
  have hown := X.2.2.2.2.2.1
  have hSK := X.2.2.2.2.2.2.2.1
  dsimp only [oCallO] at h
  split at h
  · next as n rest hp =>
    split at h
    · next hle =>
      obtain ⟨d', mc', ms', Q', rfl, g1, g2, g3, g4⟩ := zcallE h
      obtain ⟨pre, rfl, e2, rfl⟩ := zpop_spec hp
      dsimp only at g1 g2 g3 g4 h1 h2 hR ⊢
      have hcat : ((rest.map (ztr E)).map fun v => v.category).sum ≤ 8 := by rw [zcat_eq]; exact zle hle
      have hls : A.size = M.2.2.1 := hL.1
      obtain ⟨y9, b9, n9, r9⟩ := M'
      dsimp only at hr9
      subst hr9
      exact zafter (rest := rest) (va_runI (As := (pre.reverse ++ []).map (ztr E)) (b := zad E n) ⟨hx, hb, X.2.2.2.2.1, hown, hts⟩ g3 (cwI (mc := mc') (ms := ms') na hts (zGoodMy (ws := []) hc.1 (fun w q => by cases q)) rfl rfl rfl (hts _ (hw9.1)) (hts _ (hw9.2.1)) (hts _ (hw9.2.2)) hn9 hc.2.2 (zroomY hc.2.1 hr1 hr2)) ⟨zpc_blind, fun U hU hW => zpc_at rfl hR hSK hU hW⟩ rfl (zlen9 e2) hls zstk (lv_room hcat) hd ⟨zfits g1 h1, zfits g2 h2⟩) hF (fun r σ' H1 locs1 hq hR1 hF1 => by
        have hw := hK _ _ (g4 r σ' hq) p e s m args below meth cd X H1 locs1 A hR1 hL hF1 (by show bc - mc' ≤ R.cells; omega) (by show bs - ms' ≤ R.slots; omega)
        dsimp only at hw
        rw [zsub3 g1 h1, zsub3 g2 h2]
        exact hw)
    · exact h.elim
  · exact h.elim
theorem sny_callV {tb : List ExceptionTableEntry} {M : zM} {pc idx na : Nat} {tg : List (Nat × zM)} (hd : decode M.2.1 pc = .ok (.invokevirtual idx, 3)) (htg : ∀ q ∈ tg, zVT M idx na q) : zSndy M tb pc (oCallV na tg (pc + 3)) := by
  intro E d Z R c K hr1 hr2 hK h p e s m args below meth cd X H locs A hR hL hF h1 h2
  obtain ⟨ls, st, σ, bc, bs⟩ := c
  have hx := X.1
  have hb := X.2.1
  have hts := X.2.2.2.2.2.2.1
  have hown := X.2.2.2.2.2.1
  have hSK := X.2.2.2.2.2.2.2.1
  dsimp only [oCallV] at h
  split at h
  · next as n rest hp =>
    split at h
    · next hle =>
      obtain ⟨⟨ci, L⟩, M', q1, q2, h⟩ := h
      obtain ⟨d', mc', ms', Q', rfl, g1, g2, g3, g4⟩ := zcallE h
      obtain ⟨pre, rfl, e2, rfl⟩ := zpop_spec hp
      dsimp only at g1 g2 g3 g4 h1 h2 hR q1 q2 ⊢
      have hcat : ((rest.map (ztr E)).map fun v => v.category).sum ≤ 8 := by rw [zcat_eq]; exact zle hle
      have hls : A.size = M.2.2.1 := hL.1
      obtain ⟨C, T, N, c1, c2, hc, hv⟩ := htg _ (zfind_mem q2)
      have hrv := zrecv hR hSK q1 c2 c1
      rcases hv with ⟨hC, hw9⟩ | ⟨owner, x, hyx, ho, hw9⟩ | ⟨owner, x, b0, m0, r0, hyx, ho, h0, hw9⟩
      · exact zafter (rest := rest) ((va_runV (C := C) (As := (pre.reverse ++ []).map (ztr E)) (b := zad E n) ⟨hx, hb, X.2.2.2.2.1, hown, hts⟩ g3 (cwV (mc := mc') (ms := ms') na hts (zGoodMy hc.1 hw9) rfl rfl rfl ⟨hC, hc.2.2⟩ (zroomY hc.2.1 hr1 hr2)) ⟨zpc_blind, hrv, fun U hU hW => zpc_at rfl hR hSK hU hW⟩ rfl (zlen9 e2) hls zstk (lv_room hcat) hd ⟨zfits g1 h1, zfits g2 h2⟩)) hF (fun r σ' H1 locs1 hq hR1 hF1 => by
          have hw := hK _ _ (g4 r σ' hq) p e s m args below meth cd X H1 locs1 A hR1 hL hF1 (by show bc - mc' ≤ R.cells; omega) (by show bs - ms' ≤ R.slots; omega)
          dsimp only at hw
          rw [zsub3 g1 h1, zsub3 g2 h2]
          exact hw)
      · have hna : (parseMethodDescriptor x.desc).map (fun d => d.parameters.length) = some na := by
          have := hc.2.2.2.2
          rw [hyx] at this
          exact this
        exact zafter (rest := rest) ((va_runU (C := C) (owner := owner) (As := (pre.reverse ++ []).map (ztr E)) (b := zad E n) ⟨hx, hb, X.2.2.2.2.1, hown, hts⟩ g3 (va_cwU (mc := mc') (ms := ms') na hts (zGoodMy hc.1 hw9) rfl rfl rfl hyx ⟨ho.1, ho.2, hna⟩ (zroomY hc.2.1 hr1 hr2)) ⟨zpc_blind, hrv, fun U hU hW => zpc_at rfl hR hSK hU hW⟩ rfl (zlen9 e2) hls zstk (lv_room hcat) hd ⟨zfits g1 h1, zfits g2 h2⟩)) hF (fun r σ' H1 locs1 hq hR1 hF1 => by
          have hw := hK _ _ (g4 r σ' hq) p e s m args below meth cd X H1 locs1 A hR1 hL hF1 (by show bc - mc' ≤ R.cells; omega) (by show bs - ms' ≤ R.slots; omega)
          dsimp only at hw
          rw [zsub3 g1 h1, zsub3 g2 h2]
          exact hw)
      · have hna : (parseMethodDescriptor x.desc).map (fun d => d.parameters.length) = some na := by
          have := hc.2.2.2.2
          rw [hyx] at this
          exact this
        exact zafter (rest := rest) ((va_runU (C := C) (owner := owner) (As := (pre.reverse ++ []).map (ztr E)) (b := zad E n) ⟨hx, hb, X.2.2.2.2.1, hown, hts⟩ g3 (va_cwO (mc := mc') (ms := ms') na hts (zGoodMy hc.1 hw9) rfl rfl rfl (h0) ⟨ho.1, ho.2, hna⟩ (zroomY hc.2.1 hr1 hr2)) ⟨zpc_blind, hrv, fun U hU hW => zpc_at rfl hR hSK hU hW⟩ rfl (zlen9 e2) hls zstk (lv_room hcat) hd ⟨zfits g1 h1, zfits g2 h2⟩)) hF (fun r σ' H1 locs1 hq hR1 hF1 => by
          have hw := hK _ _ (g4 r σ' hq) p e s m args below meth cd X H1 locs1 A hR1 hL hF1 (by show bc - mc' ≤ R.cells; omega) (by show bs - ms' ≤ R.slots; omega)
          dsimp only at hw
          rw [zsub3 g1 h1, zsub3 g2 h2]
          exact hw)
    · exact h.elim
  · exact h.elim
theorem sny_stLn {tb : List ExceptionTableEntry} {M : zM} {pc : Nat} {i : Nat} {k9 : Fin 4} (hi : (k9 : Nat) = i) (hd : decode M.2.1 pc = .ok (.lstore_n k9, 1)) (hn : i + 1 < M.2.2.1) : zSndy M tb pc (oStL i (pc + 1)) := by
  intro E d Z R c K hr1 hr2 hK h p e s m args below meth cd X H locs A hR hL hF h1 h2
  obtain ⟨ls, st, σ, bc, bs⟩ := c
  have hx := X.1
  have hb := X.2.1
  have hts := X.2.2.2.2.2.2.1
  have hown := X.2.2.2.2.2.1
  have hSK := X.2.2.2.2.2.2.2.1
  dsimp only [oStL] at h
  split at h
  · next x st => exact lv_lstore_n hx hb hd hi hL hn rfl (fun A9 h9 => hK _ _ h p e s m args below meth cd X H locs A9 hR (zst2_mem h9) hF h1 h2)
  · exact h.elim
theorem sny_stL {tb : List ExceptionTableEntry} {M : zM} {pc : Nat} {i : Nat} (hd : decode M.2.1 pc = .ok (.lstore i, 2)) (hn : i + 1 < M.2.2.1) : zSndy M tb pc (oStL i (pc + 2)) := by
  intro E d Z R c K hr1 hr2 hK h p e s m args below meth cd X H locs A hR hL hF h1 h2
  obtain ⟨ls, st, σ, bc, bs⟩ := c
  have hx := X.1
  have hb := X.2.1
  have hts := X.2.2.2.2.2.2.1
  have hown := X.2.2.2.2.2.1
  have hSK := X.2.2.2.2.2.2.2.1
  dsimp only [oStL] at h
  split at h
  · next x st => exact lv_lstore hx hb hd hL hn rfl (fun A9 h9 => hK _ _ h p e s m args below meth cd X H locs A9 hR (zst2_mem h9) hF h1 h2)
  · exact h.elim
theorem sny_lcmp {tb : List ExceptionTableEntry} {M : zM} {pc : Nat} (hd : decode M.2.1 pc = .ok (.lcmp, 1)) : zSndy M tb pc (oLcmp (pc + 1)) := by
  intro E d Z R c K hr1 hr2 hK h p e s m args below meth cd X H locs A hR hL hF h1 h2
  obtain ⟨ls, st, σ, bc, bs⟩ := c
  have hx := X.1
  have hb := X.2.1
  have hts := X.2.2.2.2.2.2.1
  have hown := X.2.2.2.2.2.1
  have hSK := X.2.2.2.2.2.2.2.1
  dsimp only [oLcmp] at h
  split at h
  · exact W.lcmp hx hb hd (hK _ _ h p e s m args below meth cd X H locs A hR hL hF h1 h2)
  · exact h.elim
