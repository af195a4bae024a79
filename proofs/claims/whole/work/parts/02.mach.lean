/-! A machine of names over the machine of addresses: a state of its own (kinds, ints, references, longs, how many), a judgement zGo at a pc, a contract zCT a method, and a step for each instruction (o..), each sound (snd_..). -/
def zT0 : u_T := fun _ => ("", "", "", false)
abbrev zCl : List vw_C := vwCl ++ [("java/lang/IllegalArgumentException", zT0, 0), ("java/lang/IllegalStateException", zT0, 0), ("java/lang/UnsupportedOperationException", zT0, 0)]
/-- kinds (class and length), ints, references, longs by name and place; the number of names -/
abbrev zS : Type := (Nat → Nat × Nat) × (Nat → Nat → Int32) × (Nat → Nat → Option Nat) × (Nat → Nat → Int64) × Nat
def zk (σ : zS) : Nat → Nat × Nat := σ.1
def zi (σ : zS) : Nat → Nat → Int32 := σ.2.1
def zr (σ : zS) : Nat → Nat → Option Nat := σ.2.2.1
def zl (σ : zS) : Nat → Nat → Int64 := σ.2.2.2.1
def zn (σ : zS) : Nat := σ.2.2.2.2
def zu {α : Type} (f : Nat → Nat → α) (n j : Nat) (v : α) : Nat → Nat → α := fun a b => if a = n ∧ b = j then v else f a b
def zI (σ : zS) (f : Nat → Nat → Int32) : zS := (zk σ, f, zr σ, zl σ, zn σ)
def zR (σ : zS) (f : Nat → Nat → Option Nat) : zS := (zk σ, zi σ, f, zl σ, zn σ)
def zL (σ : zS) (f : Nat → Nat → Int64) : zS := (zk σ, zi σ, zr σ, f, zn σ)
/-- a cell comes: of kind q, zeros and nulls -/
def zNew (σ : zS) (q : Nat × Nat) : zS := (fun a => if a = zn σ then q else zk σ a, fun a j => if a = zn σ then 0 else zi σ a j, fun a j => if a = zn σ then none else zr σ a j, fun a j => if a = zn σ then 0 else zl σ a j, zn σ + 1)
/-- the launch, the classes, where the own cells begin, the heap there, the three read-only arrays (where, how long, what), the arrays' classes -/
abbrev zE : Type := Launch × va_G × Nat × Heap × (Nat → Nat) × (Nat → Nat) × (Nat → Nat → Int32) × (Nat → ClassId)
def eL (E : zE) : Launch := E.1
def eD (E : zE) : va_G := E.2.1
def eB (E : zE) : Nat := E.2.2.1
def eH (E : zE) : Heap := E.2.2.2.1
def eA (E : zE) : Nat → Nat := E.2.2.2.2.1
def eN (E : zE) : Nat → Nat := E.2.2.2.2.2.1
def eX (E : zE) : Nat → Nat → Int32 := E.2.2.2.2.2.2.1
def eC (E : zE) : Nat → ClassId := E.2.2.2.2.2.2.2
def zad (E : zE) (n : Nat) : Nat := if n < 3 then eA E n else eB E + (n - 3)
def zrf (E : zE) (o : Option Nat) : Value := match o with
  | none => .null
  | some n => .ref (zad E n)
def ztr (E : zE) (v : Value) : Value := match v with
  | .ref n => .ref (zad E n)
  | v => v
/-- which fields are references -/
def zFs (ci : Nat) : List Bool := match ci with
  | 3 => [false, true, true, true, true, false, true, true, true, true, true]
  | 4 => [false, true]
  | 9 => [true, true, true, true, true, true, false, true, true, true, true, true, true, true, true, true, true, true, false]
  | 11 => [true, true, true, false, true, true, true, true, true]
  | 12 => [true, true, true, false, true, true, true, true, true, true, true, true, true, true, true, true, true, false, false, false, false, false, false, true, false, false, true, true, false, true, true, true, true, true, true, true, false]
  | 13 => []
  | 14 => []
  | 15 => []
  | _ => [false, false]
def zfv (E : zE) (σ : zS) (n k : Nat) (b : Bool) : Value := match b with
  | true => zrf E (zr σ n k)
  | false => .int (zi σ n k)
def zFld (E : zE) (σ : zS) (n ci : Nat) : List Value := (zFs ci).zipIdx.map (fun q => zfv E σ n q.2 q.1)
def zent (E : zE) (σ : zS) (n : Nat) : va_E :=
  if (zk σ n).1 < 16 then .inr ((zk σ n).1, zFld E σ n (zk σ n).1)
  else if (zk σ n).1 = 18 ∨ (zk σ n).1 = 19 then .inl (eC E (zk σ n).1, (zk σ n).2, .inr (.inr (.inr (.inr (fun j => (zr σ n j).map (zad E))))))
  else if (zk σ n).1 = 20 then .inl (eC E 20, (zk σ n).2, .inr (.inl (zl σ n)))
  else .inl (eC E (zk σ n).1, (zk σ n).2, .inl (zi σ n))
def zTys (E : zE) : List (ClassId × FieldType) := [(eC E 16, .int), (eC E 17, .boolean), (eC E 18, .object "SlowerForTheLate$Row"), (eC E 19, .object "SlowerForTheLate$Walker"), (eC E 20, .long)]
/-- the heap holds the state -/
def zRel (E : zE) (σ : zS) (H : Heap) : Prop := 3 ≤ zn σ ∧ H.size = eB E + (zn σ - 3) ∧ (∀ n, 3 ≤ n → n < zn σ → (zk σ n).1 < 21 ∧ va_at (eD E) zCl (zad E n, zent E σ n) H) ∧ (∀ q : Nat, q < eB E → H[q]? = (eH E)[q]?) ∧ (∀ n, n < 3 → zk σ n = (21, eN E n) ∧ ∀ j, j < eN E n → zi σ n j = eX E n j) ∧ ∀ n, zn σ ≤ n → (zk σ n).1 = 99
def zSubs : List String := ["SlowerForTheLate$Runner", "SlowerForTheLate$Tardy", "SlowerForTheLate$Lover", "SlowerForTheLate$Staff", "SlowerForTheLate$Sleeper", "SlowerForTheLate$Aimer", "SlowerForTheLate$Parent"]
/-- what is given of the tables and of the cells that were there before -/
def zSK (E : zE) (s : State) : Prop := va_K (eD E) zCl (zTys E) s ∧ (∀ n, n < 3 → va_X (eA E n) (eN E n) (eX E n) s (eH E) ∧ eA E n < eB E) ∧ va_Z "SlowerForTheLate$Plan" "LEAST_RULES" "[I" (.ref (eA E 1)) (fun q => eB E ≤ q) s (eH E) ∧ va_Z "SlowerForTheLate$Plan" "MOST_RULES" "[I" (.ref (eA E 2)) (fun q => eB E ≤ q) s (eH E) ∧ va_AO "SlowerForTheLate$Row" s ∧ va_AO "SlowerForTheLate$Walker" s ∧ (∀ C ∈ zSubs, va_Nw (.castable C "SlowerForTheLate$Walker") s) ∧ va_Nw (.methodLinkNest "SlowerForTheLate" 28 ⟨"SlowerForTheLate$Trip", "<init>", "()V"⟩ "SlowerForTheLate") s
theorem zSK.warm {E : zE} {u U : State} (hW : u.WarmedH U.vm) (h : zSK E u) : zSK E U :=
  ⟨va_K.moved hW.alike h.1, fun n hn => ⟨(h.2.1 n hn).1.moved hW.alike, (h.2.1 n hn).2⟩, h.2.2.1.moved hW.alike, h.2.2.2.1.moved hW.alike, h.2.2.2.2.1.moved hW.alike, h.2.2.2.2.2.1.moved hW.alike, fun C hC => (h.2.2.2.2.2.2.1 C hC).warmC hW, h.2.2.2.2.2.2.2.warmM hW⟩
theorem zSK.same {E : zE} {u U : State} (hv : u.vm = U.vm) (h : zSK E u) : zSK E U := by
  have ha : u.vm.Alike U.vm := by rw [hv]; exact Vm.Alike.refl _
  exact ⟨va_K.moved ha h.1, fun n hn => ⟨(h.2.1 n hn).1.moved ha, (h.2.1 n hn).2⟩, h.2.2.1.moved ha, h.2.2.2.1.moved ha, h.2.2.2.2.1.moved ha, h.2.2.2.2.2.1.moved ha, fun C hC => (h.2.2.2.2.2.2.1 C hC).same rfl hv, h.2.2.2.2.2.2.2.same rfl hv⟩
/-- the tables' good words -/
def zTb : List Cond := lw_tbl.filter goodWord
/-- a method: its name, its bytes, how many locals, what it returns -/
abbrev zM : Type := MethodName × ByteArray × Nat × Option FieldType
def zW (M : zM) : List Cond := .code M.1 M.2.1 M.2.2.1 M.2.2.2 :: zTb
def zRm (d mc ms : Nat) : Room := { frames := d, cells := mc, slots := ms, locals := 34 * d }
def zFr (E : zE) : Addr → Prop := fun q => eB E ≤ q
abbrev zQ : Type := Option Value → zS → Prop
def zPc (E : zE) (σ : zS) (vs : List Value) : Array Value → State → Prop := fun a U => a = (vs.map (ztr E)).toArray ∧ zRel E σ U.heap ∧ zSK E U
def zQc (E : zE) (Q : zQ) : Array Value → State → Outcome → State → Prop := fun _ _ o t => ∃ (r : Option Value) (σ' : zS), o = .returned (r.map (ztr E)) ∧ Q r σ' ∧ zRel E σ' t.heap
/-- A METHOD'S CONTRACT: called with vs in σ, at most d frames deep, at most mc new cells of ms slots, it returns with Q -/
def zCT (E : zE) (d : Nat) (M : zM) (vs : List Value) (σ : zS) (mc ms : Nat) (Q : zQ) : Prop := Met (eL E) M.1 (zW M) (zRm d mc ms) (zPc E σ vs) (zQc E Q) mc ms (zFr E)
/-- locals, stack, state, the cells and slots that may still be made -/
abbrev zC : Type := List (Option Value) × List Value × zS × Nat × Nat
def zg : List (Option Value) → Nat → Option Value
  | [], _ => none
  | a :: _, 0 => a
  | _ :: l, n + 1 => zg l n
def zset : List (Option Value) → Nat → Option Value → List (Option Value)
  | [], _, _ => []
  | _ :: l, 0, v => v :: l
  | a :: l, n + 1, v => a :: zset l n v
def zclr (ls : List (Option Value)) : Nat → List (Option Value)
  | 0 => ls
  | j + 1 => match zg ls j with
    | some (.long _) => zset ls j none
    | some (.double _) => zset ls j none
    | _ => ls
def zst (ls : List (Option Value)) (k : Nat) (v : Value) : List (Option Value) := zset (zclr ls k) k (some v)
def zenc (E : zE) : Nat → List (Option Value) → List (Nat × Value)
  | _, [] => []
  | i, none :: l => zenc E (i + 1) l
  | i, some v :: l => (i, ztr E v) :: zenc E (i + 1) l
def zLs (E : zE) (nL : Nat) (ls : List (Option Value)) (A : Array Slot) : Prop := lv_has A nL (zenc E 0 ls)
/-- what stands while a method's body runs -/
def zCx (E : zE) (d : Nat) (M : zM) (mc ms : Nat) (p : Program) (s : State) (m : MethodId) (args : Array Value) (meth : Method) (c : Code) : Prop :=
  p.tables.exec = Jvm.exec ∧ c.code = M.2.1 ∧ meth.sig.returnType = M.2.2.2 ∧ meth.locks = false ∧ c.maxLocals = M.2.2.1 ∧ s.vm.findClass M.1.cls = some m.cls ∧ (∀ w ∈ zW M, w.before args s = true) ∧ zSK E s ∧ meth.name = M.1.name
/-- from here the method comes to its end, with Q -/
def zGo (E : zE) (d : Nat) (M : zM) (mc ms : Nat) (Q : zQ) (pc : Nat) (c : zC) : Prop :=
  ∀ (p : Program) (e : Env) (s : State) (m : MethodId) (args : Array Value) (below : List Frame) (meth : Method) (cd : Code), zCx E d M mc ms p s m args meth cd →
    ∀ (H : Heap) (locs : List Loc) (A : Array Slot), zRel E c.2.2.1 H → zLs E M.2.2.1 c.1 A → (∀ q ∈ locs, eB E ≤ q.base) → c.2.2.2.1 ≤ mc → c.2.2.2.2 ≤ ms →
      W p (eL E) e (zRm d mc ms) s m args below meth cd H locs (mc - c.2.2.2.1) (ms - c.2.2.2.2) (MQ below (zQc E Q) args s mc ms (zFr E)) (F0 m pc A (c.2.1.map (ztr E)))
abbrev zOp : Type := zE → Nat → zQ → zC → (Nat → zC → Prop) → Prop
def zSnd (M : zM) (pc : Nat) (op : zOp) : Prop := ∀ (E : zE) (d : Nat) (Q : zQ) (mc ms : Nat) (c : zC) (K : Nat → zC → Prop), (∀ pc' c', K pc' c' → zGo E d M mc ms Q pc' c') → op E d Q c K → zGo E d M mc ms Q pc c
def zOK (M : zM) (P : Nat → zOp) : Prop := ∀ pc, zSnd M pc (P pc)
/-- n steps by the table P, then G -/
def zwp (P : Nat → zOp) (G : Nat → zC → Prop) (E : zE) (d : Nat) (Q : zQ) : Nat → Nat → zC → Prop
  | 0, pc, c => G pc c
  | n + 1, pc, c => P pc E d Q c (zwp P G E d Q n)
theorem zrun {M : zM} {P : Nat → zOp} (h : zOK M P) {E : zE} {d : Nat} {Q : zQ} {mc ms : Nat} : ∀ (n : Nat) {pc : Nat} {c : zC}, zwp P (zGo E d M mc ms Q) E d Q n pc c → zGo E d M mc ms Q pc c
  | 0, _, _, k => k
  | n + 1, pc, c, k => h pc E d Q mc ms c _ (fun _ _ q => zrun h n q) k
/-- no instruction here -/
def oNo : zOp := fun _ _ _ _ _ => False
theorem snd_no (M : zM) (pc : Nat) : zSnd M pc oNo := fun _ _ _ _ _ _ _ _ h => h.elim
/-! locals -/
theorem zenc_mem {E : zE} {v : Value} : ∀ {ls : List (Option Value)} {i k : Nat}, zg ls k = some v → (i + k, ztr E v) ∈ zenc E i ls
  | [], _, _, h => by cases h
  | none :: l, i, 0, h => by cases h
  | none :: l, i, k + 1, h => by
    have := zenc_mem (E := E) (ls := l) (i := i + 1) (k := k) h
    rw [show i + (k + 1) = i + 1 + k by omega]
    exact this
  | some a :: l, i, 0, h => by
    cases h
    exact List.mem_cons_self
  | some a :: l, i, k + 1, h => by
    have := zenc_mem (E := E) (ls := l) (i := i + 1) (k := k) h
    rw [show i + (k + 1) = i + 1 + k by omega]
    exact List.mem_cons_of_mem _ this
theorem zenc_inv {E : zE} {q : Nat × Value} : ∀ {ls : List (Option Value)} {i : Nat}, q ∈ zenc E i ls → ∃ k v, zg ls k = some v ∧ q = (i + k, ztr E v)
  | [], _, h => by cases h
  | none :: l, i, h => by
    obtain ⟨k, v, h1, h2⟩ := zenc_inv (ls := l) (i := i + 1) h
    exact ⟨k + 1, v, h1, by rw [h2]; congr 1; omega⟩
  | some a :: l, i, h => by
    rcases List.mem_cons.mp h with h | h
    · exact ⟨0, a, rfl, h⟩
    · obtain ⟨k, v, h1, h2⟩ := zenc_inv (ls := l) (i := i + 1) h
      exact ⟨k + 1, v, h1, by rw [h2]; congr 1; omega⟩
theorem zLs.get {E : zE} {nL : Nat} {ls : List (Option Value)} {A : Array Slot} (h : zLs E nL ls A) {k : Nat} {v : Value} (hk : zg ls k = some v) : A[k]? = some (.val (ztr E v)) := by
  have := h.2.2 _ (zenc_mem (E := E) (i := 0) hk)
  simpa using this
theorem zg_set : ∀ (ls : List (Option Value)) (k j : Nat) (v : Option Value), zg (zset ls k v) j = if j = k ∧ k < ls.length then v else zg ls j
  | [], k, j, v => by simp [zset, zg]
  | a :: l, 0, 0, v => by simp [zset, zg]
  | a :: l, 0, j + 1, v => by simp [zset, zg]
  | a :: l, k + 1, 0, v => by simp [zset, zg]
  | a :: l, k + 1, j + 1, v => by
    simp only [zset, zg, zg_set l k j v, List.length_cons]
    by_cases h : j = k ∧ k < l.length
    · rw [if_pos h, if_pos (by omega)]
    · rw [if_neg h, if_neg (by omega)]
theorem zst_mem {E : zE} {nL : Nat} {ls : List (Option Value)} {A' : Array Slot} {k : Nat} {v : Value} (h' : lv_has A' nL ((k, ztr E v) :: (zenc E 0 ls).filter (fun q => !(q.1 == k) && !(q.1 + 1 == k && q.2.category == 2)))) : zLs E nL (zst ls k v) A' := by
  refine ⟨h'.1, h'.2.1, fun q hq => ?_⟩
  obtain ⟨j, w, hj, rfl⟩ := zenc_inv hq
  rw [Nat.zero_add]
  unfold zst at hj
  rw [zg_set] at hj
  by_cases hjk : j = k
  · subst hjk
    by_cases hlt : j < (zclr ls j).length
    · rw [if_pos ⟨rfl, hlt⟩] at hj
      cases hj
      exact h'.2.2 _ List.mem_cons_self
    · rw [if_neg (by omega)] at hj
      have : ∀ (l : List (Option Value)) (j : Nat), l.length ≤ j → zg l j = none := by
        intro l
        induction l with
        | nil => intro j _; rfl
        | cons a l ih => intro j hj; cases j with
          | zero => simp at hj
          | succ j => exact ih j (by simp at hj; omega)
      rw [this _ _ (by omega)] at hj
      cases hj
  · rw [if_neg (by omega)] at hj
    have key : zg ls j = some w ∧ ¬ (j + 1 = k ∧ w.category = 2) := by
      cases k with
      | zero => exact ⟨hj, by omega⟩
      | succ k =>
        simp only [zclr] at hj
        split at hj
        · next hx =>
          rw [zg_set] at hj
          split at hj
          · cases hj
          · next hn =>
            refine ⟨hj, ?_⟩
            rintro ⟨e, -⟩
            have e : j = k := by omega
            subst e
            have : j < ls.length := by
              rcases Nat.lt_or_ge j ls.length with q | q
              · exact q
              · exfalso
                have : ∀ (l : List (Option Value)) (j : Nat), l.length ≤ j → zg l j = none := by
                  intro l
                  induction l with
                  | nil => intro j _; rfl
                  | cons a l ih => intro j hj; cases j with
                    | zero => simp at hj
                    | succ j => exact ih j (by simp at hj; omega)
                rw [this _ _ q] at hx
                cases hx
            exact hn ⟨rfl, this⟩
        · next hx =>
          rw [zg_set] at hj
          split at hj
          · cases hj
          · next hn =>
            refine ⟨hj, ?_⟩
            rintro ⟨e, -⟩
            have e : j = k := by omega
            subst e
            have : j < ls.length := by
              rcases Nat.lt_or_ge j ls.length with q | q
              · exact q
              · exfalso
                have : ∀ (l : List (Option Value)) (j : Nat), l.length ≤ j → zg l j = none := by
                  intro l
                  induction l with
                  | nil => intro j _; rfl
                  | cons a l ih => intro j hj; cases j with
                    | zero => simp at hj
                    | succ j => exact ih j (by simp at hj; omega)
                rw [this _ _ q] at hx
                cases hx
            exact hn ⟨rfl, this⟩
        · next h1 h2 =>
          refine ⟨hj, ?_⟩
          rintro ⟨e, hc⟩
          have e : j = k := by omega
          subst e
          cases w <;> simp [Value.category] at hc
          · exact h1 _ hj
          · exact h2 _ hj
    have hm : (j, ztr E w) ∈ zenc E 0 ls := by have := zenc_mem (E := E) (i := 0) key.1; simpa using this
    refine h'.2.2 _ (List.mem_cons_of_mem _ (List.mem_filter.mpr ⟨hm, ?_⟩))
    have hcat : (ztr E w).category = w.category := by cases w <;> rfl
    simp only [hcat, Bool.and_eq_true, Bool.not_eq_true', beq_eq_false_iff_ne, ne_eq, Bool.and_eq_false_iff]
    refine ⟨hjk, ?_⟩
    by_cases e : j + 1 = k
    · exact Or.inr (fun z => key.2 ⟨e, z⟩)
    · exact Or.inl e
